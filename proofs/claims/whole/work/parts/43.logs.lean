/-! logs: the rows by place; each row: part, level, value, hour, when it was told, its number -/
abbrev LR : Type := Nat × Nat × Int32 × Nat × Nat × Nat
def rP (r : LR) : Nat := r.1
def rL (r : LR) : Nat := r.2.1
def rV (r : LR) : Int32 := r.2.2.1
def rH (r : LR) : Nat := r.2.2.2.1
def rT (r : LR) : Nat := r.2.2.2.2.1
def rI (r : LR) : Nat := r.2.2.2.2.2
def LGc (s : St) (L : Nat → LR) (m : Nat) : Prop := gI s 200 = io m ∧ (∀ k, k < m → gA s 9 k = io (rI (L k)) ∧ gA s 4 (rI (L k)) = io (rP (L k)) ∧ gA s 5 (rI (L k)) = io (rL (L k)) ∧ gA s 6 (rI (L k)) = rV (L k) ∧ gA s 7 (rI (L k)) = io (rH (L k)) ∧ gA s 8 (rI (L k)) = io (rT (L k))) ∧ ∀ x, x ≤ 1001 → gA s 10 x = io (cnt (fun k => decide (rH (L k) < x)) m)
def LGm (s : St) (L : Nat → LR) (m : Nat) : Prop := gI s 2527 = io m ∧ ∀ k, k < m → gA s 52 k = io (rP (L k)) ∧ gA s 53 k = io (rL (L k)) ∧ gA s 54 k = rV (L k) ∧ gA s 55 k = io (rH (L k))
def LGg (L : Nat → LR) (m h : Nat) : Prop := m ≤ 100 ∧ (∀ k, k < m → rP (L k) ≤ 7 ∧ rL (L k) ≤ 5 ∧ -1000 ≤ (rV (L k)).toInt ∧ (rV (L k)).toInt ≤ 1000 ∧ rH (L k) ≤ rT (L k) ∧ rT (L k) ≤ h ∧ rI (L k) < m) ∧ ∀ k k', k < k' → k' < m → rH (L k) ≤ rH (L k')
theorem LGc.fr {eI eA : List Nat} {s s' : St} {L : Nat → LR} {m : Nat} (H : LGc s L m) (f : Fr eI eA s s') (d1 : 200 ∉ eI := by decide) (d : ∀ k ∈ [4, 5, 6, 7, 8, 9, 10], k ∉ eA := by decide) : LGc s' L m := by
  unfold LGc
  rw [f.gi 200 d1, f.ga 4 (d 4 (by decide)), f.ga 5 (d 5 (by decide)), f.ga 6 (d 6 (by decide)), f.ga 7 (d 7 (by decide)), f.ga 8 (d 8 (by decide)), f.ga 9 (d 9 (by decide)), f.ga 10 (d 10 (by decide))]
  exact H
theorem LGm.fr {eI eA : List Nat} {s s' : St} {L : Nat → LR} {m : Nat} (H : LGm s L m) (f : Fr eI eA s s') (d1 : 2527 ∉ eI := by decide) (d : ∀ k ∈ [52, 53, 54, 55], k ∉ eA := by decide) : LGm s' L m := by
  unfold LGm
  rw [f.gi 2527 d1, f.ga 52 (d 52 (by decide)), f.ga 53 (d 53 (by decide)), f.ga 54 (d 54 (by decide)), f.ga 55 (d 55 (by decide))]
  exact H
def lins (L : Nat → LR) (x : Nat) (r : LR) : Nat → LR := fun k => if k < x then L k else if k = x then r else L (k - 1)
theorem cnt_lins (p : LR → Bool) (L : Nat → LR) (x : Nat) (r : LR) : ∀ d, cnt (fun k => p (lins L x r k)) (x + d + 1) = cnt (fun k => p (L k)) (x + d) + (if p r then 1 else 0) := by
  intro d
  induction d with
  | zero =>
    show cnt (fun k => p (lins L x r k)) x + (if p (lins L x r x) then 1 else 0) = _
    have e1 : cnt (fun k => p (lins L x r k)) x = cnt (fun k => p (L k)) x := cnt_ext (fun i hi => by unfold lins; rw [if_pos hi])
    have e2 : lins L x r x = r := by unfold lins; rw [if_neg (by omega), if_pos rfl]
    rw [e1, e2]; rfl
  | succ d ih =>
    show cnt (fun k => p (lins L x r k)) (x + d + 1) + (if p (lins L x r (x + d + 1)) then 1 else 0) = cnt (fun k => p (L k)) (x + d) + (if p (L (x + d)) then 1 else 0) + (if p r then 1 else 0)
    have e2 : lins L x r (x + d + 1) = L (x + d) := by unfold lins; rw [if_neg (by omega), if_neg (by omega)]; congr 1
    rw [ih, e2]; omega
theorem cnt_sorted {p : Nat → Bool} : ∀ m, (∀ k k', k < k' → k' < m → p k' = true → p k = true) → ∀ k, k < m → (p k = true ↔ k < cnt p m) := by
  intro m
  induction m with
  | zero => intro _ k hk; omega
  | succ m ih =>
    intro h k hk
    have ih' := ih (fun k k' h1 h2 => h k k' h1 (by omega))
    show _ ↔ k < cnt p m + (if p m then 1 else 0)
    have hle := cnt_le p m
    by_cases hpm : p m = true
    · have hall : cnt p m = m := by
        have : ∀ j, j ≤ m → cnt p j = j := by
          intro j
          induction j with
          | zero => intro _; rfl
          | succ j ihj =>
            intro hj
            show cnt p j + (if p j then 1 else 0) = j + 1
            rw [ihj (by omega), if_pos (h j m (by omega) (by omega) hpm)]
        exact this m (Nat.le_refl _)
      rw [if_pos hpm, hall]
      constructor
      · intro _; omega
      · intro _
        by_cases e : k = m
        · rw [e]; exact hpm
        · exact h k m (by omega) (by omega) hpm
    · rw [if_neg hpm]
      by_cases e : k = m
      · subst e
        constructor
        · intro h1; exact absurd h1 hpm
        · intro h1; omega
      · rw [ih' k (by omega)]; omega
/-- the place of a new log -/
def lplace (L : Nat → LR) (m hr : Nat) : Nat := cnt (fun k => decide (rH (L k) < hr + 1)) m
theorem lplace_le (L : Nat → LR) (m hr : Nat) : lplace L m hr ≤ m := cnt_le _ _
theorem lplace_iff {L : Nat → LR} {m h hr : Nat} (G : LGg L m h) {k : Nat} (hk : k < m) : rH (L k) ≤ hr ↔ k < lplace L m hr := by
  have h1 := cnt_sorted (p := fun k => decide (rH (L k) < hr + 1)) m (fun k k' h1 h2 h3 => by
    have h4 := G.2.2 k k' h1 h2
    have h5 := of_decide_eq_true h3
    exact decide_eq_true (by omega)) k hk
  unfold lplace
  rw [← h1]
  simp only [decide_eq_true_eq]
  omega
theorem LGg.ins {L : Nat → LR} {m h : Nat} {r : LR} (G : LGg L m h) (hm : m < 100) (hr : rP r ≤ 7 ∧ rL r ≤ 5 ∧ -1000 ≤ (rV r).toInt ∧ (rV r).toInt ≤ 1000 ∧ rH r ≤ rT r ∧ rT r ≤ h ∧ rI r < m + 1) : LGg (lins L (lplace L m (rH r)) r) (m + 1) h := by
  have hx := lplace_le L m (rH r)
  refine ⟨by omega, fun k hk => ?_, fun k k' h1 h2 => ?_⟩
  · unfold lins
    by_cases c1 : k < lplace L m (rH r)
    · rw [if_pos c1]
      obtain ⟨a1, a2, a3, a4, a5, a6, a7⟩ := G.2.1 k (by omega)
      exact ⟨a1, a2, a3, a4, a5, a6, by omega⟩
    · rw [if_neg c1]
      by_cases c2 : k = lplace L m (rH r)
      · rw [if_pos c2]; exact hr
      · rw [if_neg c2]
        obtain ⟨a1, a2, a3, a4, a5, a6, a7⟩ := G.2.1 (k - 1) (by omega)
        exact ⟨a1, a2, a3, a4, a5, a6, by omega⟩
  · unfold lins
    by_cases c1 : k' < lplace L m (rH r)
    · rw [if_pos c1, if_pos (by omega)]
      exact G.2.2 k k' h1 (by omega)
    · rw [if_neg c1]
      by_cases c2 : k' = lplace L m (rH r)
      · rw [if_pos c2, if_pos (by omega)]
        exact (lplace_iff G (by omega)).mpr (by omega)
      · rw [if_neg c2]
        by_cases c3 : k < lplace L m (rH r)
        · rw [if_pos c3]
          by_cases c4 : k = k' - 1
          · rw [c4]; exact Nat.le_refl _
          · exact G.2.2 k (k' - 1) (by omega) (by omega)
        · rw [if_neg c3]
          by_cases c4 : k = lplace L m (rH r)
          · rw [if_pos c4]
            exact Nat.le_of_lt (Nat.lt_of_not_le (fun h => absurd ((lplace_iff G (k := k' - 1) (hr := rH r) (by omega)).mp h) (by omega)))
          · rw [if_neg c4]
            exact G.2.2 (k - 1) (k' - 1) (by omega) (by omega)
/-! the rows move: the class -/
def so (s : St) (x : Nat) : Nat → St
  | 0 => s
  | k + 1 => so (sA s 9 (x + k + 1) (gA s 9 (x + k))) x k
theorem so_fr : ∀ (k x : Nat) (s : St), Fr [] [9] s (so s x k) := by
  intro k
  induction k with
  | zero => intro x s; exact Fr.rf
  | succ k ih => intro x s; exact (Fr.rf.A (by decide)).trans (ih x _)
theorem so_at : ∀ (k x : Nat) (s : St) (j : Nat), gA (so s x k) 9 j = if x < j ∧ j ≤ x + k then gA s 9 (j - 1) else gA s 9 j := by
  intro k
  induction k with
  | zero => intro x s j; rw [if_neg (by omega)]; rfl
  | succ k ih =>
    intro x s j
    unfold so
    rw [ih x]
    simp only [gI_sI, gI_sA, gI_sL, gI_sJ, gI_sR, gI_sQ, gI_sD, gI_sN, gI_sz, gA_sI, gA_sA, gA_sL, gA_sJ, gA_sR, gA_sQ, gA_sD, gA_sN, gA_sz, gL_sI, gL_sA, gL_sL, gL_sJ, gL_sR, gL_sQ, gL_sD, gL_sN, gL_sz, gJ_sI, gJ_sA, gJ_sL, gJ_sJ, gJ_sR, gJ_sQ, gJ_sD, gJ_sN, gJ_sz, gR_sI, gR_sA, gR_sL, gR_sJ, gR_sR, gR_sQ, gR_sD, gR_sN, gR_sz, gQ_sI, gQ_sA, gQ_sL, gQ_sJ, gQ_sR, gQ_sQ, gQ_sD, gQ_sN, gQ_sz, gD_sI, gD_sA, gD_sL, gD_sJ, gD_sR, gD_sQ, gD_sD, gD_sN, gD_sz, sz_sI, sz_sA, sz_sL, sz_sJ, sz_sR, sz_sQ, sz_sD, sz_sN, sz_sz, reduceIte]
    by_cases h1 : j = x + k + 1
    · subst h1
      have h2 : ¬ (x < x + k + 1 ∧ x + k + 1 ≤ x + k) := by omega
      have h3 : x < x + k + 1 ∧ x + k + 1 ≤ x + (k + 1) := by omega
      rw [if_neg h2, if_pos rfl, if_pos h3]; rfl
    · by_cases h2 : x < j ∧ j ≤ x + k
      · have h3 : x < j ∧ j ≤ x + (k + 1) := by omega
        have h4 : ¬ j - 1 = x + k + 1 := by omega
        rw [if_pos h2, if_neg h4, if_pos h3]
      · have h3 : ¬ (x < j ∧ j ≤ x + (k + 1)) := by omega
        rw [if_neg h2, if_neg h1, if_neg h3]
def sa (s : St) (i : Nat) : Nat → St
  | 0 => s
  | k + 1 => sa (sA s 10 i (gA s 10 i + io 1)) (i + 1) k
theorem sa_fr : ∀ (k i : Nat) (s : St), Fr [] [10] s (sa s i k) := by
  intro k
  induction k with
  | zero => intro i s; exact Fr.rf
  | succ k ih => intro i s; exact (Fr.rf.A (by decide)).trans (ih (i + 1) _)
theorem sa_at : ∀ (k i : Nat) (s : St) (j : Nat), gA (sa s i k) 10 j = if i ≤ j ∧ j < i + k then gA s 10 j + io 1 else gA s 10 j := by
  intro k
  induction k with
  | zero => intro i s j; rw [if_neg (by omega)]; rfl
  | succ k ih =>
    intro i s j
    unfold sa
    rw [ih (i + 1)]
    simp only [gI_sI, gI_sA, gI_sL, gI_sJ, gI_sR, gI_sQ, gI_sD, gI_sN, gI_sz, gA_sI, gA_sA, gA_sL, gA_sJ, gA_sR, gA_sQ, gA_sD, gA_sN, gA_sz, gL_sI, gL_sA, gL_sL, gL_sJ, gL_sR, gL_sQ, gL_sD, gL_sN, gL_sz, gJ_sI, gJ_sA, gJ_sL, gJ_sJ, gJ_sR, gJ_sQ, gJ_sD, gJ_sN, gJ_sz, gR_sI, gR_sA, gR_sL, gR_sJ, gR_sR, gR_sQ, gR_sD, gR_sN, gR_sz, gQ_sI, gQ_sA, gQ_sL, gQ_sJ, gQ_sR, gQ_sQ, gQ_sD, gQ_sN, gQ_sz, gD_sI, gD_sA, gD_sL, gD_sJ, gD_sR, gD_sQ, gD_sD, gD_sN, gD_sz, sz_sI, sz_sA, sz_sL, sz_sJ, sz_sR, sz_sQ, sz_sD, sz_sN, sz_sz, reduceIte]
    by_cases h1 : j = i
    · subst h1
      have h2 : ¬ (j + 1 ≤ j ∧ j < j + 1 + k) := by omega
      have h3 : j ≤ j ∧ j < j + (k + 1) := by omega
      simp only [h2, h3, reduceIte, and_self]
    · by_cases h2 : i + 1 ≤ j ∧ j < i + 1 + k
      · have h3 : i ≤ j ∧ j < i + (k + 1) := by omega
        simp only [h1, h2, h3, reduceIte, and_self]
      · have h3 : ¬ (i ≤ j ∧ j < i + (k + 1)) := by omega
        simp only [h1, h2, h3, reduceIte]
theorem sa_loop {F : Nat} : ∀ (k n i : Nat) (s : St), i + k = 1002 → k < n → f_Logs_putInOrder_b84 F n s (io i) = some (sa s i k) := by
  intro k
  induction k with
  | zero =>
    intro n i s hi hn
    obtain ⟨n, rfl⟩ : ∃ n', n = n' + 1 := ⟨n - 1, by omega⟩
    have hi' : i = 1002 := by omega
    subst hi'
    simp (disch := omega) only [f_Logs_putInOrder_b84, Option.bind_some, Nat.reduceEqDiff, Nat.add_zero, Nat.zero_add, Nat.reduceLT, Nat.reduceLeDiff, Nat.reduceAdd, Nat.reduceSub, Nat.reduceMul, Nat.reduceDiv, Nat.lt_irrefl, Nat.not_lt_zero, Nat.zero_le, Nat.one_ne_zero, Nat.succ_ne_zero,  lt_def, i32_lit, reduceIte, P_isIn_eq, M_isIn_eq, M_goes_eq, or_false, false_or, or_true, true_or, and_true, true_and, and_false, false_and, not_true, not_false_eq_true, eq_self, if_true, if_false, not_or, not_and, Nat.not_lt, Nat.not_le, io_le, Nat.le_refl, sa]
  | succ k ih =>
    intro n i s hi hn
    obtain ⟨n, rfl⟩ : ∃ n', n = n' + 1 := ⟨n - 1, by omega⟩
    have h1 : ¬ 1002 ≤ i := by omega
    have h3 := ih n (i + 1) (sA s 10 i (gA s 10 i + io 1)) (by omega) (by omega)
    simp (disch := omega) only [f_Logs_putInOrder_b84, Option.bind_some, Nat.reduceEqDiff, Nat.add_zero, Nat.zero_add, Nat.reduceLT, Nat.reduceLeDiff, Nat.reduceAdd, Nat.reduceSub, Nat.reduceMul, Nat.reduceDiv, Nat.lt_irrefl, Nat.not_lt_zero, Nat.zero_le, Nat.one_ne_zero, Nat.succ_ne_zero,  lt_def, i32_lit, reduceIte, P_isIn_eq, M_isIn_eq, M_goes_eq, or_false, false_or, or_true, true_or, and_true, true_and, and_false, false_and, not_true, not_false_eq_true, eq_self, if_true, if_false, not_or, not_and, Nat.not_lt, Nat.not_le, io_le, h1, ix_io, io_add, sa]
    exact h3
theorem so_loop {F x hr : Nat} (hF : 5000 ≤ F) (hx : x ≤ 100) (hhr : hr ≤ 1000) {l1 : Int32} : ∀ (k n : Nat) (s : St), x + k < 100 → k < n → f_Logs_putInOrder_b44 F n s l1 (io hr) (io x) (io (x + k)) = some (sa (sA (so s x k) 9 x l1) (hr + 1) (1001 - hr)) := by
  intro k
  induction k with
  | zero =>
    intro n s hk hn
    obtain ⟨n, rfl⟩ : ∃ n', n = n' + 1 := ⟨n - 1, by omega⟩
    have h3 := sa_loop (F := F) (1001 - hr) F (hr + 1) (sA s 9 x l1) (by omega) (by omega)
    simp (disch := omega) only [f_Logs_putInOrder_b44, Option.bind_some, Nat.reduceEqDiff, Nat.add_zero, Nat.zero_add, Nat.reduceLT, Nat.reduceLeDiff, Nat.reduceAdd, Nat.reduceSub, Nat.reduceMul, Nat.reduceDiv, Nat.lt_irrefl, Nat.not_lt_zero, Nat.zero_le, Nat.one_ne_zero, Nat.succ_ne_zero,  lt_def, i32_lit, reduceIte, P_isIn_eq, M_isIn_eq, M_goes_eq, or_false, false_or, or_true, true_or, and_true, true_and, and_false, false_and, not_true, not_false_eq_true, eq_self, if_true, if_false, not_or, not_and, Nat.not_lt, Nat.not_le, io_le, Nat.le_refl, ix_io, io_add, so]
    exact h3
  | succ k ih =>
    intro n s hk hn
    obtain ⟨n, rfl⟩ : ∃ n', n = n' + 1 := ⟨n - 1, by omega⟩
    have h1 : ¬ x + (k + 1) ≤ x := by omega
    have h3 := ih n (sA s 9 (x + k + 1) (gA s 9 (x + k))) (by omega) (by omega)
    have e1 : x + (k + 1) - 1 = x + k := by omega
    simp (disch := omega) only [f_Logs_putInOrder_b44, Option.bind_some, Nat.reduceEqDiff, Nat.add_zero, Nat.zero_add, Nat.reduceLT, Nat.reduceLeDiff, Nat.reduceAdd, Nat.reduceSub, Nat.reduceMul, Nat.reduceDiv, Nat.lt_irrefl, Nat.not_lt_zero, Nat.zero_le, Nat.one_ne_zero, Nat.succ_ne_zero,  lt_def, i32_lit, reduceIte, P_isIn_eq, M_isIn_eq, M_goes_eq, or_false, false_or, or_true, true_or, and_true, true_and, and_false, false_and, not_true, not_false_eq_true, eq_self, if_true, if_false, not_or, not_and, Nat.not_lt, Nat.not_le, io_le, h1, io_sub, io_pred, ix_io, e1, so]
    exact h3
/-! the rows move: the model -/
def sm (s : St) (x : Nat) : Nat → St
  | 0 => s
  | k + 1 => sm (sA (sA (sA (sA s 52 (x + k + 1) (gA s 52 (x + k))) 53 (x + k + 1) (gA s 53 (x + k))) 54 (x + k + 1) (gA s 54 (x + k))) 55 (x + k + 1) (gA s 55 (x + k))) x k
theorem sm_fr : ∀ (k x : Nat) (s : St), Fr [] [52, 53, 54, 55] s (sm s x k) := by
  intro k
  induction k with
  | zero => intro x s; exact Fr.rf
  | succ k ih => intro x s; exact ((((Fr.rf.A (by decide)).A (by decide)).A (by decide)).A (by decide)).trans (ih x _)
theorem sm_at : ∀ (k x : Nat) (s : St) (j a : Nat), (a = 52 ∨ a = 53 ∨ a = 54 ∨ a = 55) → gA (sm s x k) a j = if x < j ∧ j ≤ x + k then gA s a (j - 1) else gA s a j := by
  intro k
  induction k with
  | zero => intro x s j a _; rw [if_neg (by omega)]; rfl
  | succ k ih =>
    intro x s j a ha
    unfold sm
    rw [ih x _ j a ha]
    by_cases h1 : j = x + k + 1
    · subst h1
      have h2 : ¬ (x < x + k + 1 ∧ x + k + 1 ≤ x + k) := by omega
      have h3 : x < x + k + 1 ∧ x + k + 1 ≤ x + (k + 1) := by omega
      rw [if_neg h2, if_pos h3]
      rcases ha with rfl | rfl | rfl | rfl <;> (simp only [gI_sI, gI_sA, gI_sL, gI_sJ, gI_sR, gI_sQ, gI_sD, gI_sN, gI_sz, gA_sI, gA_sA, gA_sL, gA_sJ, gA_sR, gA_sQ, gA_sD, gA_sN, gA_sz, gL_sI, gL_sA, gL_sL, gL_sJ, gL_sR, gL_sQ, gL_sD, gL_sN, gL_sz, gJ_sI, gJ_sA, gJ_sL, gJ_sJ, gJ_sR, gJ_sQ, gJ_sD, gJ_sN, gJ_sz, gR_sI, gR_sA, gR_sL, gR_sJ, gR_sR, gR_sQ, gR_sD, gR_sN, gR_sz, gQ_sI, gQ_sA, gQ_sL, gQ_sJ, gQ_sR, gQ_sQ, gQ_sD, gQ_sN, gQ_sz, gD_sI, gD_sA, gD_sL, gD_sJ, gD_sR, gD_sQ, gD_sD, gD_sN, gD_sz, sz_sI, sz_sA, sz_sL, sz_sJ, sz_sR, sz_sQ, sz_sD, sz_sN, sz_sz, reduceIte, Nat.reduceEqDiff]; rfl)
    · by_cases h2 : x < j ∧ j ≤ x + k
      · have h3 : x < j ∧ j ≤ x + (k + 1) := by omega
        have h4 : ¬ j - 1 = x + k + 1 := by omega
        rw [if_pos h2, if_pos h3]
        rcases ha with rfl | rfl | rfl | rfl <;> simp only [gI_sI, gI_sA, gI_sL, gI_sJ, gI_sR, gI_sQ, gI_sD, gI_sN, gI_sz, gA_sI, gA_sA, gA_sL, gA_sJ, gA_sR, gA_sQ, gA_sD, gA_sN, gA_sz, gL_sI, gL_sA, gL_sL, gL_sJ, gL_sR, gL_sQ, gL_sD, gL_sN, gL_sz, gJ_sI, gJ_sA, gJ_sL, gJ_sJ, gJ_sR, gJ_sQ, gJ_sD, gJ_sN, gJ_sz, gR_sI, gR_sA, gR_sL, gR_sJ, gR_sR, gR_sQ, gR_sD, gR_sN, gR_sz, gQ_sI, gQ_sA, gQ_sL, gQ_sJ, gQ_sR, gQ_sQ, gQ_sD, gQ_sN, gQ_sz, gD_sI, gD_sA, gD_sL, gD_sJ, gD_sR, gD_sQ, gD_sD, gD_sN, gD_sz, sz_sI, sz_sA, sz_sL, sz_sJ, sz_sR, sz_sQ, sz_sD, sz_sN, sz_sz, h4, reduceIte, Nat.reduceEqDiff]
      · have h3 : ¬ (x < j ∧ j ≤ x + (k + 1)) := by omega
        rw [if_neg h2, if_neg h3]
        rcases ha with rfl | rfl | rfl | rfl <;> simp only [gI_sI, gI_sA, gI_sL, gI_sJ, gI_sR, gI_sQ, gI_sD, gI_sN, gI_sz, gA_sI, gA_sA, gA_sL, gA_sJ, gA_sR, gA_sQ, gA_sD, gA_sN, gA_sz, gL_sI, gL_sA, gL_sL, gL_sJ, gL_sR, gL_sQ, gL_sD, gL_sN, gL_sz, gJ_sI, gJ_sA, gJ_sL, gJ_sJ, gJ_sR, gJ_sQ, gJ_sD, gJ_sN, gJ_sz, gR_sI, gR_sA, gR_sL, gR_sJ, gR_sR, gR_sQ, gR_sD, gR_sN, gR_sz, gQ_sI, gQ_sA, gQ_sL, gQ_sJ, gQ_sR, gQ_sQ, gQ_sD, gQ_sN, gQ_sz, gD_sI, gD_sA, gD_sL, gD_sJ, gD_sR, gD_sQ, gD_sD, gD_sN, gD_sz, sz_sI, sz_sA, sz_sL, sz_sJ, sz_sR, sz_sQ, sz_sD, sz_sN, sz_sz, h1, reduceIte, Nat.reduceEqDiff]
theorem sm_loop {F x hr : Nat} (hhr : hr ≤ 1000) {l1 l2 l3 : Int32} : ∀ (k n : Nat) (s : St), x + k < 100 → k < n → (∀ j, j < x + k → ∃ t, t ≤ 1000 ∧ gA s 55 j = io t ∧ (t ≤ hr ↔ j < x)) → f_M_log_b90 F n s l1 l2 l3 (io hr) (io (x + k)) = f_M_log_b179 F (sm s x k) l1 l2 l3 (io hr) (io x) := by
  intro k
  induction k with
  | zero =>
    intro n s hk hn hs
    obtain ⟨n, rfl⟩ : ∃ n', n = n' + 1 := ⟨n - 1, by omega⟩
    by_cases hx0 : x = 0
    · subst hx0
      simp (disch := omega) only [f_M_log_b90, Option.bind_some, Nat.reduceEqDiff, Nat.add_zero, Nat.zero_add, Nat.reduceLT, Nat.reduceLeDiff, Nat.reduceAdd, Nat.reduceSub, Nat.reduceMul, Nat.reduceDiv, Nat.lt_irrefl, Nat.not_lt_zero, Nat.zero_le, Nat.one_ne_zero, Nat.succ_ne_zero,  lt_def, i32_lit, reduceIte, P_isIn_eq, M_isIn_eq, M_goes_eq, or_false, false_or, or_true, true_or, and_true, true_and, and_false, false_and, not_true, not_false_eq_true, eq_self, if_true, if_false, not_or, not_and, Nat.not_lt, Nat.not_le, io_le, Nat.le_refl, sm]
    · have h1 : ¬ x ≤ 0 := by omega
      obtain ⟨t, ht, e, hi⟩ := hs (x - 1) (by omega)
      have h2 : t ≤ hr := hi.mpr (by omega)
      simp (disch := omega) only [f_M_log_b90, Option.bind_some, Nat.reduceEqDiff, Nat.add_zero, Nat.zero_add, Nat.reduceLT, Nat.reduceLeDiff, Nat.reduceAdd, Nat.reduceSub, Nat.reduceMul, Nat.reduceDiv, Nat.lt_irrefl, Nat.not_lt_zero, Nat.zero_le, Nat.one_ne_zero, Nat.succ_ne_zero,  lt_def, i32_lit, reduceIte, P_isIn_eq, M_isIn_eq, M_goes_eq, or_false, false_or, or_true, true_or, and_true, true_and, and_false, false_and, not_true, not_false_eq_true, eq_self, if_true, if_false, not_or, not_and, Nat.not_lt, Nat.not_le, io_le, h1, io_sub, ix_io, e, h2, sm]
  | succ k ih =>
    intro n s hk hn hs
    obtain ⟨n, rfl⟩ : ∃ n', n = n' + 1 := ⟨n - 1, by omega⟩
    have h1 : ¬ x + (k + 1) ≤ 0 := by omega
    obtain ⟨t, ht, e, hi⟩ := hs (x + k) (by omega)
    have h2 : ¬ gA s 55 (x + k) ≤ io hr := by rw [e, io_le (by omega) (by omega)]; exact fun h => by have := hi.mp h; omega
    have h3 := ih n (sA (sA (sA (sA s 52 (x + k + 1) (gA s 52 (x + k))) 53 (x + k + 1) (gA s 53 (x + k))) 54 (x + k + 1) (gA s 54 (x + k))) 55 (x + k + 1) (gA s 55 (x + k))) (by omega) (by omega) (fun j hj => by
      obtain ⟨t', ht', e', hi'⟩ := hs j (by omega)
      refine ⟨t', ht', ?_, hi'⟩
      have h4 : ¬ j = x + k + 1 := by omega
      simp only [gI_sI, gI_sA, gI_sL, gI_sJ, gI_sR, gI_sQ, gI_sD, gI_sN, gI_sz, gA_sI, gA_sA, gA_sL, gA_sJ, gA_sR, gA_sQ, gA_sD, gA_sN, gA_sz, gL_sI, gL_sA, gL_sL, gL_sJ, gL_sR, gL_sQ, gL_sD, gL_sN, gL_sz, gJ_sI, gJ_sA, gJ_sL, gJ_sJ, gJ_sR, gJ_sQ, gJ_sD, gJ_sN, gJ_sz, gR_sI, gR_sA, gR_sL, gR_sJ, gR_sR, gR_sQ, gR_sD, gR_sN, gR_sz, gQ_sI, gQ_sA, gQ_sL, gQ_sJ, gQ_sR, gQ_sQ, gQ_sD, gQ_sN, gQ_sz, gD_sI, gD_sA, gD_sL, gD_sJ, gD_sR, gD_sQ, gD_sD, gD_sN, gD_sz, sz_sI, sz_sA, sz_sL, sz_sJ, sz_sR, sz_sQ, sz_sD, sz_sN, sz_sz, h4, reduceIte, Nat.reduceEqDiff]
      exact e')
    have e1 : x + (k + 1) - 1 = x + k := by omega
    simp (disch := omega) only [f_M_log_b90, Option.bind_some, Nat.reduceEqDiff, Nat.add_zero, Nat.zero_add, Nat.reduceLT, Nat.reduceLeDiff, Nat.reduceAdd, Nat.reduceSub, Nat.reduceMul, Nat.reduceDiv, Nat.lt_irrefl, Nat.not_lt_zero, Nat.zero_le, Nat.one_ne_zero, Nat.succ_ne_zero,  lt_def, i32_lit, reduceIte, P_isIn_eq, M_isIn_eq, M_goes_eq, or_false, false_or, or_true, true_or, and_true, true_and, and_false, false_and, not_true, not_false_eq_true, eq_self, if_true, if_false, not_or, not_and, Nat.not_lt, Nat.not_le, io_le, h1, io_sub, io_pred, ix_io, e1, h2, sm]
    exact h3
