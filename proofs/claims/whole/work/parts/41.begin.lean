/-! a shift begins: a debt is forgotten, those that wait are woken -/
def sh2 (s : St) (i : Nat) : Nat → St
  | 0 => s
  | k + 1 => sh2 (sA (sA s 16 i (gA s 16 (i + 1))) 17 i (gA s 17 (i + 1))) (i + 1) k
theorem sh2_fr : ∀ (k i : Nat) (s : St), Fr [] [16, 17] s (sh2 s i k) := by
  intro k
  induction k with
  | zero => intro i s; exact Fr.rf
  | succ k ih => intro i s; exact ((Fr.rf.A (by decide)).A (by decide)).trans (ih (i + 1) _)
theorem sh2_at : ∀ (k i : Nat) (s : St) (x : Nat), gA (sh2 s i k) 16 x = (if i ≤ x ∧ x < i + k then gA s 16 (x + 1) else gA s 16 x) ∧ gA (sh2 s i k) 17 x = (if i ≤ x ∧ x < i + k then gA s 17 (x + 1) else gA s 17 x) := by
  intro k
  induction k with
  | zero =>
    intro i s x
    rw [if_neg (by omega), if_neg (by omega)]; exact ⟨rfl, rfl⟩
  | succ k ih =>
    intro i s x
    obtain ⟨a1, a2⟩ := ih (i + 1) (sA (sA s 16 i (gA s 16 (i + 1))) 17 i (gA s 17 (i + 1))) x
    unfold sh2
    rw [a1, a2]
    have h0 : ¬ x + 1 = i ∨ x + 1 = i := by omega
    simp only [gI_sI, gI_sA, gI_sL, gI_sJ, gI_sR, gI_sQ, gI_sD, gI_sN, gI_sz, gA_sI, gA_sA, gA_sL, gA_sJ, gA_sR, gA_sQ, gA_sD, gA_sN, gA_sz, gL_sI, gL_sA, gL_sL, gL_sJ, gL_sR, gL_sQ, gL_sD, gL_sN, gL_sz, gJ_sI, gJ_sA, gJ_sL, gJ_sJ, gJ_sR, gJ_sQ, gJ_sD, gJ_sN, gJ_sz, gR_sI, gR_sA, gR_sL, gR_sJ, gR_sR, gR_sQ, gR_sD, gR_sN, gR_sz, gQ_sI, gQ_sA, gQ_sL, gQ_sJ, gQ_sR, gQ_sQ, gQ_sD, gQ_sN, gQ_sz, gD_sI, gD_sA, gD_sL, gD_sJ, gD_sR, gD_sQ, gD_sD, gD_sN, gD_sz, sz_sI, sz_sA, sz_sL, sz_sJ, sz_sR, sz_sQ, sz_sD, sz_sN, sz_sz, reduceIte, Nat.reduceEqDiff]
    by_cases h1 : x = i
    · subst h1
      have h2 : ¬ (x + 1 ≤ x ∧ x < x + 1 + k) := by omega
      have h3 : x ≤ x ∧ x < x + (k + 1) := by omega
      simp only [h2, h3, reduceIte, and_self]
    · by_cases h2 : i + 1 ≤ x ∧ x < i + 1 + k
      · have h3 : i ≤ x ∧ x < i + (k + 1) := by omega
        have h4 : ¬ x + 1 = i := by omega
        simp only [h2, h3, h4, reduceIte, and_self]
      · have h3 : ¬ (i ≤ x ∧ x < i + (k + 1)) := by omega
        simp only [h1, h2, h3, reduceIte]
        exact ⟨trivial, trivial⟩
theorem forget_loop {F d : Nat} (hd : d < 4000) : ∀ (k m i : Nat) (s : St), gI s 774 = io d → i + k = d → k < m → f_Rota_forgetDebt_b27 F m s (io i) = some (sh2 s i k) := by
  intro k
  induction k with
  | zero =>
    intro m i s e1 hi hm
    obtain ⟨m, rfl⟩ : ∃ m', m = m' + 1 := ⟨m - 1, by omega⟩
    have hi' : i = d := by omega
    subst hi'
    simp (disch := omega) only [f_Rota_forgetDebt_b27, Option.bind_some, Nat.reduceEqDiff, Nat.add_zero, Nat.zero_add, Nat.reduceLT, Nat.reduceLeDiff, Nat.reduceAdd, Nat.reduceSub, Nat.reduceMul, Nat.reduceDiv, Nat.lt_irrefl, Nat.not_lt_zero, Nat.zero_le, Nat.one_ne_zero, Nat.succ_ne_zero,  lt_def, i32_lit, reduceIte, P_isIn_eq, M_isIn_eq, M_goes_eq, or_false, false_or, or_true, true_or, and_true, true_and, and_false, false_and, not_true, not_false_eq_true, eq_self, if_true, if_false, not_or, not_and, Nat.not_lt, Nat.not_le, io_le, e1, Nat.le_refl, sh2]
  | succ k ih =>
    intro m i s e1 hi hm
    obtain ⟨m, rfl⟩ : ∃ m', m = m' + 1 := ⟨m - 1, by omega⟩
    have h1 : ¬ d ≤ i := by omega
    have h2 : ¬ 4000 ≤ i + 1 := by omega
    have h3 := ih m (i + 1) (sA (sA s 16 i (gA s 16 (i + 1))) 17 i (gA s 17 (i + 1))) e1 (by omega) (by omega)
    have e17 : gA (sA s 16 i (gA s 16 (i + 1))) 17 = gA s 17 := rfl
    simp (disch := omega) only [f_Rota_forgetDebt_b27, Option.bind_some, Nat.reduceEqDiff, Nat.add_zero, Nat.zero_add, Nat.reduceLT, Nat.reduceLeDiff, Nat.reduceAdd, Nat.reduceSub, Nat.reduceMul, Nat.reduceDiv, Nat.lt_irrefl, Nat.not_lt_zero, Nat.zero_le, Nat.one_ne_zero, Nat.succ_ne_zero,  lt_def, i32_lit, reduceIte, P_isIn_eq, M_isIn_eq, M_goes_eq, or_false, false_or, or_true, true_or, and_true, true_and, and_false, false_and, not_true, not_false_eq_true, eq_self, if_true, if_false, not_or, not_and, Nat.not_lt, Nat.not_le, io_le, io_add, ix_io, e1, h1, h2, e17]
    exact h3
def shm (s : St) (i : Nat) : Nat → St
  | 0 => s
  | k + 1 => shm (sA s 69 i (gA s 69 (i + 1))) (i + 1) k
theorem shm_fr : ∀ (k i : Nat) (s : St), Fr [] [69] s (shm s i k) := by
  intro k
  induction k with
  | zero => intro i s; exact Fr.rf
  | succ k ih => intro i s; exact (Fr.rf.A (by decide)).trans (ih (i + 1) _)
theorem shm_at : ∀ (k i : Nat) (s : St) (x : Nat), gA (shm s i k) 69 x = if i ≤ x ∧ x < i + k then gA s 69 (x + 1) else gA s 69 x := by
  intro k
  induction k with
  | zero => intro i s x; rw [if_neg (by omega)]; rfl
  | succ k ih =>
    intro i s x
    unfold shm
    rw [ih (i + 1)]
    simp only [gI_sI, gI_sA, gI_sL, gI_sJ, gI_sR, gI_sQ, gI_sD, gI_sN, gI_sz, gA_sI, gA_sA, gA_sL, gA_sJ, gA_sR, gA_sQ, gA_sD, gA_sN, gA_sz, gL_sI, gL_sA, gL_sL, gL_sJ, gL_sR, gL_sQ, gL_sD, gL_sN, gL_sz, gJ_sI, gJ_sA, gJ_sL, gJ_sJ, gJ_sR, gJ_sQ, gJ_sD, gJ_sN, gJ_sz, gR_sI, gR_sA, gR_sL, gR_sJ, gR_sR, gR_sQ, gR_sD, gR_sN, gR_sz, gQ_sI, gQ_sA, gQ_sL, gQ_sJ, gQ_sR, gQ_sQ, gQ_sD, gQ_sN, gQ_sz, gD_sI, gD_sA, gD_sL, gD_sJ, gD_sR, gD_sQ, gD_sD, gD_sN, gD_sz, sz_sI, sz_sA, sz_sL, sz_sJ, sz_sR, sz_sQ, sz_sD, sz_sN, sz_sz, reduceIte, Nat.reduceEqDiff]
    by_cases h1 : x = i
    · subst h1
      have h2 : ¬ (x + 1 ≤ x ∧ x < x + 1 + k) := by omega
      have h3 : x ≤ x ∧ x < x + (k + 1) := by omega
      simp only [h2, h3, reduceIte, and_self]
    · by_cases h2 : i + 1 ≤ x ∧ x < i + 1 + k
      · have h3 : i ≤ x ∧ x < i + (k + 1) := by omega
        have h4 : ¬ x + 1 = i := by omega
        simp only [h2, h3, h4, reduceIte, and_self]
      · have h3 : ¬ (i ≤ x ∧ x < i + (k + 1)) := by omega
        simp only [h1, h2, h3, reduceIte]
theorem shm_loop {F d : Nat} (hd : d < 4000) {l2 : Int32} : ∀ (k m i : Nat) (s : St), gI s 2548 = io d → i + k = d → k < m → f_M_begins_b36 F m s l2 (io i) = f_M_begins_b66 F F (shm s i k) l2 (io 0) := by
  intro k
  induction k with
  | zero =>
    intro m i s e1 hi hm
    obtain ⟨m, rfl⟩ : ∃ m', m = m' + 1 := ⟨m - 1, by omega⟩
    have hi' : i = d := by omega
    subst hi'
    simp (disch := omega) only [f_M_begins_b36, Option.bind_some, Nat.reduceEqDiff, Nat.add_zero, Nat.zero_add, Nat.reduceLT, Nat.reduceLeDiff, Nat.reduceAdd, Nat.reduceSub, Nat.reduceMul, Nat.reduceDiv, Nat.lt_irrefl, Nat.not_lt_zero, Nat.zero_le, Nat.one_ne_zero, Nat.succ_ne_zero,  lt_def, i32_lit, reduceIte, P_isIn_eq, M_isIn_eq, M_goes_eq, or_false, false_or, or_true, true_or, and_true, true_and, and_false, false_and, not_true, not_false_eq_true, eq_self, if_true, if_false, not_or, not_and, Nat.not_lt, Nat.not_le, io_le, e1, Nat.le_refl, shm]
  | succ k ih =>
    intro m i s e1 hi hm
    obtain ⟨m, rfl⟩ : ∃ m', m = m' + 1 := ⟨m - 1, by omega⟩
    have h1 : ¬ d ≤ i := by omega
    have h3 := ih m (i + 1) (sA s 69 i (gA s 69 (i + 1))) e1 (by omega) (by omega)
    simp (disch := omega) only [f_M_begins_b36, Option.bind_some, Nat.reduceEqDiff, Nat.add_zero, Nat.zero_add, Nat.reduceLT, Nat.reduceLeDiff, Nat.reduceAdd, Nat.reduceSub, Nat.reduceMul, Nat.reduceDiv, Nat.lt_irrefl, Nat.not_lt_zero, Nat.zero_le, Nat.one_ne_zero, Nat.succ_ne_zero,  lt_def, i32_lit, reduceIte, P_isIn_eq, M_isIn_eq, M_goes_eq, or_false, false_or, or_true, true_or, and_true, true_and, and_false, false_and, not_true, not_false_eq_true, eq_self, if_true, if_false, not_or, not_and, Nat.not_lt, Nat.not_le, io_le, io_add, ix_io, e1, h1]
    exact h3
/-- the ghost behind: a holder, a debt less -/
def rmv (f : Nat → Nat) (p : Nat) : Nat → Nat := fun i => if i < p then f i else f (i + 1)
def gbeg (g : RG) (n d j : Nat) : RG := if paid2 g n d j = -io 1 then (gsw g, gof g, ups (gho g) j (hold2 g n d j), gda g, gdb g) else (gsw g, gof g, ups (gho g) j (hold2 g n d j), rmv (gda g) (cl (paid2 g n d j)), rmv (gdb g) (cl (paid2 g n d j)))
def dbeg (g : RG) (n d j : Nat) : Nat := if paid2 g n d j = -io 1 then d else d - 1
theorem gbeg_sw (g : RG) (n d j : Nat) : gsw (gbeg g n d j) = gsw g := by unfold gbeg; split <;> rfl
theorem gbeg_of (g : RG) (n d j : Nat) : gof (gbeg g n d j) = gof g := by unfold gbeg; split <;> rfl
theorem gbeg_ho (g : RG) (n d j : Nat) : gho (gbeg g n d j) = ups (gho g) j (hold2 g n d j) := by unfold gbeg; split <;> rfl
theorem DBg.beg {g : RG} {n d j : Nat} (K : DBg g n d) : DBg (gbeg g n d j) n (dbeg g n d j) := by
  unfold gbeg dbeg
  rcases paid2_or (g := g) (n := n) (d := d) (j := j) with ep | ⟨i, hi, ep⟩
  · rw [if_pos ep, if_pos ep]; exact K
  · have hd := K.1
    rw [ep, if_neg (by rw [io_neg1 (by omega)]; exact id), if_neg (by rw [io_neg1 (by omega)]; exact id)]
    refine ⟨by omega, fun x hx => ?_⟩
    show rmv (gda g) _ x < n ∧ rmv (gdb g) _ x < n
    unfold rmv
    by_cases h : x < cl (io i)
    · rw [if_pos h, if_pos h]; exact K.2 x (by omega)
    · rw [if_neg h, if_neg h]; exact K.2 (x + 1) (by omega)
theorem ROg.beg {g : RG} {h n d j : Nat} (G : ROg g h n) (K : DBg g n d) (hn : n ≤ 8) (hj : j < 126) {h' : Nat} (hh : h' / 8 = j) (hle : h ≤ h') : ROg (gbeg g n d j) h' n := fun x hx => by
  obtain ⟨a1, a2, a3, a4⟩ := G x hx
  rw [gbeg_sw, gbeg_of, gbeg_ho]
  refine ⟨a1, a2, ?_, fun hl => ?_⟩
  · unfold ups
    by_cases e : x = j
    · rw [if_pos e]; exact hold2_nob G K hj hn
    · rw [if_neg e]; exact a3
  · unfold ups
    rw [if_neg (by omega)]
    exact a4 (by omega)
theorem P_begin {F h n d : Nat} (hF : 5000 ≤ F) {s : St} {g : RG} (P : PEc s n) (R : ROc s g) (G : ROg g h n) (Q : DBc s g d) (K : DBg g n d) {j : Nat} (hj : j < 126) : ∃ s', f_Rota_begin F s (io j) = some s' ∧ ROc s' (gbeg g n d j) ∧ DBc s' (gbeg g n d j) (dbeg g n d j) ∧ Fr [774] [15, 16, 17] s s' := by
  have hd := K.1
  have h1 : ¬ 125 < j := by omega
  have hro : ∀ s', (∀ x, gA s' 13 x = gA s 13 x) → (∀ x, gA s' 14 x = gA s 14 x) → (∀ x, gA s' 15 x = ups (gA s 15) j (hold2 g n d j) x) → ROc s' (gbeg g n d j) := fun s' e1 e2 e3 x hx => by
    obtain ⟨a1, a2, a3⟩ := R x hx
    rw [gbeg_sw, gbeg_of, gbeg_ho, e1, e2, e3]
    refine ⟨a1, a2, ?_⟩
    unfold ups
    by_cases e : x = j
    · rw [if_pos e, if_pos e]
    · rw [if_neg e, if_neg e]; exact a3
  rcases paid2_or (g := g) (n := n) (d := d) (j := j) with ep | ⟨i, hi, ep⟩
  · refine ⟨sA s 15 j (hold2 g n d j), ?_, hro _ (fun _ => rfl) (fun _ => rfl) (fun _ => rfl), ?_, Fr.rf.A (by decide)⟩
    · have h2 : gI (sA s 15 j (hold2 g n d j)) 774 = io d := Q.1
      have h3 : (if -io 1 < io 0 ∨ io d - io 1 < -io 1 then io 0 else io 1) = io 0 := by rw [if_pos (Or.inl (by decide))]
      simp (disch := omega) only [f_Rota_begin, f_Rota_forgetDebt, Option.bind_some, Nat.reduceEqDiff, Nat.add_zero, Nat.zero_add, Nat.reduceLT, Nat.reduceLeDiff, Nat.reduceAdd, Nat.reduceSub, Nat.reduceMul, Nat.reduceDiv, Nat.lt_irrefl, Nat.not_lt_zero, Nat.zero_le, Nat.one_ne_zero, Nat.succ_ne_zero,  lt_def, i32_lit, reduceIte, P_isIn_eq, M_isIn_eq, M_goes_eq, or_false, false_or, or_true, true_or, and_true, true_and, and_false, false_and, not_true, not_false_eq_true, eq_self, if_true, if_false, not_or, not_and, Nat.not_lt, Nat.not_le, io_lt, h1, P_debtPaid2 hF P R G Q K hj, P_hold2 hF P R G Q K hj, ix_io, ep, h2, h3, io_eq]
    · unfold gbeg dbeg
      rw [if_pos ep, if_pos ep]
      exact Q
  · have hcl : cl (io i) = i := cl_io (by omega)
    have hne : ¬ paid2 g n d j = -io 1 := by rw [ep, io_neg1 (by omega)]; exact id
    obtain ⟨D, hD⟩ : ∃ D, d = D + 1 := ⟨d - 1, by omega⟩
    have hfl := forget_loop (F := F) (d := D) (by omega) (D - i) F i (sI (sA s 15 j (hold2 g n d j)) 774 (io D)) rfl (by omega) (by omega)
    refine ⟨sh2 (sI (sA s 15 j (hold2 g n d j)) 774 (io D)) i (D - i), ?_, hro _ (fun x => ?_) (fun x => ?_) (fun x => ?_), ?_, ?_⟩
    · have h2 : gI (sA s 15 j (hold2 g n d j)) 774 = io d := Q.1
      have h4 : ¬ i < 0 := by omega
      have h5 : ¬ d - 1 < i := by omega
      have h6 : d - 1 = D := by omega
      simp (disch := omega) only [f_Rota_begin, f_Rota_forgetDebt, Option.bind_some, Nat.reduceEqDiff, Nat.add_zero, Nat.zero_add, Nat.reduceLT, Nat.reduceLeDiff, Nat.reduceAdd, Nat.reduceSub, Nat.reduceMul, Nat.reduceDiv, Nat.lt_irrefl, Nat.not_lt_zero, Nat.zero_le, Nat.one_ne_zero, Nat.succ_ne_zero,  lt_def, i32_lit, reduceIte, P_isIn_eq, M_isIn_eq, M_goes_eq, or_false, false_or, or_true, true_or, and_true, true_and, and_false, false_and, not_true, not_false_eq_true, eq_self, if_true, if_false, not_or, not_and, Nat.not_lt, Nat.not_le, io_lt, h1, P_debtPaid2 hF P R G Q K hj, P_hold2 hF P R G Q K hj, ix_io, ep, h2, io_sub, h4, h5, io_eq, h6, hfl]
      have h7 : ¬ D < i := by omega
      simp (disch := omega) only [h7, Option.bind_some, Nat.reduceEqDiff, Nat.add_zero, Nat.zero_add, Nat.reduceLT, Nat.reduceLeDiff, Nat.reduceAdd, Nat.reduceSub, Nat.reduceMul, Nat.reduceDiv, Nat.lt_irrefl, Nat.not_lt_zero, Nat.zero_le, Nat.one_ne_zero, Nat.succ_ne_zero,  lt_def, i32_lit, reduceIte, P_isIn_eq, M_isIn_eq, M_goes_eq, or_false, false_or, or_true, true_or, and_true, true_and, and_false, false_and, not_true, not_false_eq_true, eq_self, if_true, if_false, not_or, not_and, Nat.not_lt, Nat.not_le, io_eq, hfl]
    · rw [(sh2_fr _ _ _).ga 13 (by decide)]; rfl
    · rw [(sh2_fr _ _ _).ga 14 (by decide)]; rfl
    · rw [(sh2_fr _ _ _).ga 15 (by decide)]; simp only [gI_sI, gI_sA, gI_sL, gI_sJ, gI_sR, gI_sQ, gI_sD, gI_sN, gI_sz, gA_sI, gA_sA, gA_sL, gA_sJ, gA_sR, gA_sQ, gA_sD, gA_sN, gA_sz, gL_sI, gL_sA, gL_sL, gL_sJ, gL_sR, gL_sQ, gL_sD, gL_sN, gL_sz, gJ_sI, gJ_sA, gJ_sL, gJ_sJ, gJ_sR, gJ_sQ, gJ_sD, gJ_sN, gJ_sz, gR_sI, gR_sA, gR_sL, gR_sJ, gR_sR, gR_sQ, gR_sD, gR_sN, gR_sz, gQ_sI, gQ_sA, gQ_sL, gQ_sJ, gQ_sR, gQ_sQ, gQ_sD, gQ_sN, gQ_sz, gD_sI, gD_sA, gD_sL, gD_sJ, gD_sR, gD_sQ, gD_sD, gD_sN, gD_sz, sz_sI, sz_sA, sz_sL, sz_sJ, sz_sR, sz_sQ, sz_sD, sz_sN, sz_sz, reduceIte]; rfl
    · unfold gbeg dbeg
      rw [if_neg hne, if_neg hne, ep, hcl]
      refine ⟨by rw [(sh2_fr _ _ _).gi 774 (by decide), hD]; rfl, fun x hx => ?_⟩
      obtain ⟨a1, a2⟩ := sh2_at (D - i) i (sI (sA s 15 j (hold2 g n d j)) 774 (io D)) x
      rw [a1, a2]
      show _ = io (rmv (gda g) i x) ∧ _ = io (rmv (gdb g) i x)
      unfold rmv
      by_cases hxi : x < i
      · rw [if_neg (show ¬ (i ≤ x ∧ x < i + (D - i)) by omega), if_neg (show ¬ (i ≤ x ∧ x < i + (D - i)) by omega), if_pos hxi, if_pos hxi]
        exact Q.2 x (by omega)
      · rw [if_pos (show i ≤ x ∧ x < i + (D - i) by omega), if_pos (show i ≤ x ∧ x < i + (D - i) by omega), if_neg hxi, if_neg hxi]
        exact Q.2 (x + 1) (by omega)
    · exact ((Fr.rf.A (by decide)).I (by decide)).trans ((sh2_fr _ _ _).wide (by decide) (by decide))
theorem M_begin {F h n d : Nat} (hF : 5000 ≤ F) {s : St} {g : RG} (P : PEm s n) (R : ROm s g) (G : ROg g h n) (Q : DBm s g d) (K : DBg g n d) {j : Nat} (hj : j < 126) : ∃ s', f_M_begins F s (io j) = f_M_begins_b66 F F s' (hold2 g n d j) (io 0) ∧ ROm s' (gbeg g n d j) ∧ DBm s' (gbeg g n d j) (dbeg g n d j) ∧ Fr [2548, 2550] [58, 69] s s' := by
  have hd := K.1
  have hro : ∀ s', (∀ x, gA s' 57 x = gA s 57 x) → (∀ x, gA s' 56 x = gA s 56 x) → (∀ x, gA s' 58 x = ups (gA s 58) j (hold2 g n d j) x) → ROm s' (gbeg g n d j) := fun s' e1 e2 e3 x hx => by
    obtain ⟨a1, a2, a3⟩ := R x hx
    rw [gbeg_sw, gbeg_ho, e1, e3]
    refine ⟨a1, fun p hp => ?_, ?_⟩
    · rw [e2, a2 p hp]; unfold ofb; rw [gbeg_of]
    · unfold ups
      by_cases e : x = j
      · rw [if_pos e, if_pos e]
      · rw [if_neg e, if_neg e]; exact a3
  rcases paid2_or (g := g) (n := n) (d := d) (j := j) with ep | ⟨i, hi, ep⟩
  · refine ⟨sA (sI s 2550 (-io 1)) 58 j (hold2 g n d j), ?_, hro _ (fun _ => rfl) (fun _ => rfl) (fun _ => rfl), ?_, (Fr.rf.I (by decide)).A (by decide)⟩
    · simp (disch := omega) only [f_M_begins, Option.bind_some, Nat.reduceEqDiff, Nat.add_zero, Nat.zero_add, Nat.reduceLT, Nat.reduceLeDiff, Nat.reduceAdd, Nat.reduceSub, Nat.reduceMul, Nat.reduceDiv, Nat.lt_irrefl, Nat.not_lt_zero, Nat.zero_le, Nat.one_ne_zero, Nat.succ_ne_zero,  lt_def, i32_lit, reduceIte, P_isIn_eq, M_isIn_eq, M_goes_eq, or_false, false_or, or_true, true_or, and_true, true_and, and_false, false_and, not_true, not_false_eq_true, eq_self, if_true, if_false, not_or, not_and, Nat.not_lt, Nat.not_le, M_hold2 hF P R G Q K hj, ix_io, ep, gI_sI, gI_sA, gI_sL, gI_sJ, gI_sR, gI_sQ, gI_sD, gI_sN, gI_sz, gA_sI, gA_sA, gA_sL, gA_sJ, gA_sR, gA_sQ, gA_sD, gA_sN, gA_sz, gL_sI, gL_sA, gL_sL, gL_sJ, gL_sR, gL_sQ, gL_sD, gL_sN, gL_sz, gJ_sI, gJ_sA, gJ_sL, gJ_sJ, gJ_sR, gJ_sQ, gJ_sD, gJ_sN, gJ_sz, gR_sI, gR_sA, gR_sL, gR_sJ, gR_sR, gR_sQ, gR_sD, gR_sN, gR_sz, gQ_sI, gQ_sA, gQ_sL, gQ_sJ, gQ_sR, gQ_sQ, gQ_sD, gQ_sN, gQ_sz, gD_sI, gD_sA, gD_sL, gD_sJ, gD_sR, gD_sQ, gD_sD, gD_sN, gD_sz, sz_sI, sz_sA, sz_sL, sz_sJ, sz_sR, sz_sQ, sz_sD, sz_sN, sz_sz]
    · unfold gbeg dbeg
      rw [if_pos ep, if_pos ep]
      exact Q
  · have hcl : cl (io i) = i := cl_io (by omega)
    have hne : ¬ paid2 g n d j = -io 1 := by rw [ep, io_neg1 (by omega)]; exact id
    obtain ⟨D, hD⟩ : ∃ D, d = D + 1 := ⟨d - 1, by omega⟩
    have hfl := shm_loop (F := F) (d := D) (by omega) (l2 := hold2 g n d j) (D - i) F i (sI (sA (sI s 2550 (io i)) 58 j (hold2 g n d j)) 2548 (io D)) rfl (by omega) (by omega)
    refine ⟨shm (sI (sA (sI s 2550 (io i)) 58 j (hold2 g n d j)) 2548 (io D)) i (D - i), ?_, hro _ (fun x => ?_) (fun x => ?_) (fun x => ?_), ?_, ?_⟩
    · have h2 : gI s 2548 = io d := Q.1
      have h6 : d - 1 = D := by omega
      simp (disch := omega) only [f_M_begins, Option.bind_some, Nat.reduceEqDiff, Nat.add_zero, Nat.zero_add, Nat.reduceLT, Nat.reduceLeDiff, Nat.reduceAdd, Nat.reduceSub, Nat.reduceMul, Nat.reduceDiv, Nat.lt_irrefl, Nat.not_lt_zero, Nat.zero_le, Nat.one_ne_zero, Nat.succ_ne_zero,  lt_def, i32_lit, reduceIte, P_isIn_eq, M_isIn_eq, M_goes_eq, or_false, false_or, or_true, true_or, and_true, true_and, and_false, false_and, not_true, not_false_eq_true, eq_self, if_true, if_false, not_or, not_and, Nat.not_lt, Nat.not_le, M_hold2 hF P R G Q K hj, ix_io, ep, gI_sI, gI_sA, gI_sL, gI_sJ, gI_sR, gI_sQ, gI_sD, gI_sN, gI_sz, gA_sI, gA_sA, gA_sL, gA_sJ, gA_sR, gA_sQ, gA_sD, gA_sN, gA_sz, gL_sI, gL_sA, gL_sL, gL_sJ, gL_sR, gL_sQ, gL_sD, gL_sN, gL_sz, gJ_sI, gJ_sA, gJ_sL, gJ_sJ, gJ_sR, gJ_sQ, gJ_sD, gJ_sN, gJ_sz, gR_sI, gR_sA, gR_sL, gR_sJ, gR_sR, gR_sQ, gR_sD, gR_sN, gR_sz, gQ_sI, gQ_sA, gQ_sL, gQ_sJ, gQ_sR, gQ_sQ, gQ_sD, gQ_sN, gQ_sz, gD_sI, gD_sA, gD_sL, gD_sJ, gD_sR, gD_sQ, gD_sD, gD_sN, gD_sz, sz_sI, sz_sA, sz_sL, sz_sJ, sz_sR, sz_sQ, sz_sD, sz_sN, sz_sz, io_neg1, h2, io_sub, h6]
      exact hfl
    · rw [(shm_fr _ _ _).ga 57 (by decide)]; rfl
    · rw [(shm_fr _ _ _).ga 56 (by decide)]; rfl
    · rw [(shm_fr _ _ _).ga 58 (by decide)]; simp only [gI_sI, gI_sA, gI_sL, gI_sJ, gI_sR, gI_sQ, gI_sD, gI_sN, gI_sz, gA_sI, gA_sA, gA_sL, gA_sJ, gA_sR, gA_sQ, gA_sD, gA_sN, gA_sz, gL_sI, gL_sA, gL_sL, gL_sJ, gL_sR, gL_sQ, gL_sD, gL_sN, gL_sz, gJ_sI, gJ_sA, gJ_sL, gJ_sJ, gJ_sR, gJ_sQ, gJ_sD, gJ_sN, gJ_sz, gR_sI, gR_sA, gR_sL, gR_sJ, gR_sR, gR_sQ, gR_sD, gR_sN, gR_sz, gQ_sI, gQ_sA, gQ_sL, gQ_sJ, gQ_sR, gQ_sQ, gQ_sD, gQ_sN, gQ_sz, gD_sI, gD_sA, gD_sL, gD_sJ, gD_sR, gD_sQ, gD_sD, gD_sN, gD_sz, sz_sI, sz_sA, sz_sL, sz_sJ, sz_sR, sz_sQ, sz_sD, sz_sN, sz_sz, reduceIte]; rfl
    · unfold gbeg dbeg
      rw [if_neg hne, if_neg hne, ep, hcl]
      refine ⟨by rw [(shm_fr _ _ _).gi 2548 (by decide), hD]; rfl, fun x hx => ?_⟩
      rw [shm_at]
      show _ = io (8 * rmv (gda g) i x + rmv (gdb g) i x)
      unfold rmv
      by_cases hxi : x < i
      · rw [if_neg (show ¬ (i ≤ x ∧ x < i + (D - i)) by omega), if_pos hxi, if_pos hxi]
        exact Q.2 x (by omega)
      · rw [if_pos (show i ≤ x ∧ x < i + (D - i) by omega), if_neg hxi, if_neg hxi]
        exact Q.2 (x + 1) (by omega)
    · exact ((((Fr.rf.I (by decide)).A (by decide)).I (by decide))).trans ((shm_fr _ _ _).wide (by decide) (by decide))
