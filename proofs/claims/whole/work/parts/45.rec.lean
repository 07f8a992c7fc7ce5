/-! the logs that are picked; what a question sees of a log -/
abbrev Rec : Type := Int32 × Int32 × Int32 × Int32
def rec1 (r : LR) : Rec := (io (rP r), io (rL r), rV r, io (rH r % 24))
/-- a record's field by its sign: p, l, v, h -/
def fld (f : Nat) (r : Rec) : Int32 := if f = 104 then r.2.2.2 else if f = 108 then r.2.1 else if f = 112 then r.1 else if f = 118 then r.2.2.1 else io 0
def inW (L : Nat → LR) (a b t k : Nat) : Bool := decide (a ≤ rH (L k) ∧ rH (L k) ≤ b ∧ rT (L k) ≤ t)
def pks (L : Nat → LR) (m a b t : Nat) : List Nat := (List.range m).filter (inW L a b t)
def env (L : Nat → LR) (m a b t : Nat) : List Rec := (pks L m a b t).map (fun k => rec1 (L k))
def PK (s : St) (L : Nat → LR) (l : List Nat) : Prop := gI s 201 = io l.length ∧ ∀ i (h : i < l.length), gA s 11 i = io (rI (L l[i]))
theorem pick_loop {F h m t B : Nat} {s0 : St} {L : Nat → LR} (C : LGc s0 L m) (G : LGg L m h) (hh : h ≤ 1000) (ht : t ≤ 1000) (hB : B ≤ m) : ∀ (k n i : Nat) (s : St) (acc : List Nat), i + k = B → k < n → acc.length ≤ i → Fr [201] [11] s0 s → PK s L acc →
    ∃ s', f_Logs_pick_b47 F n s (io t) (io B) (io i) = some s' ∧ PK s' L (acc ++ (List.range' i k).filter (fun k => decide (rT (L k) ≤ t))) ∧ Fr [201] [11] s0 s' := by
  have hm := G.1
  intro k
  induction k with
  | zero =>
    intro n i s acc hi hn ha f hp
    obtain ⟨n, rfl⟩ : ∃ n', n = n' + 1 := ⟨n - 1, by omega⟩
    have hi' : i = B := by omega
    subst hi'
    refine ⟨s, ?_, ?_, f⟩
    · simp (disch := omega) only [f_Logs_pick_b47, Option.bind_some, Nat.reduceEqDiff, Nat.add_zero, Nat.zero_add, Nat.reduceLT, Nat.reduceLeDiff, Nat.reduceAdd, Nat.reduceSub, Nat.reduceMul, Nat.reduceDiv, Nat.lt_irrefl, Nat.not_lt_zero, Nat.zero_le, Nat.one_ne_zero, Nat.succ_ne_zero,  lt_def, i32_lit, reduceIte, P_isIn_eq, M_isIn_eq, M_goes_eq, or_false, false_or, or_true, true_or, and_true, true_and, and_false, false_and, not_true, not_false_eq_true, eq_self, if_true, if_false, not_or, not_and, Nat.not_lt, Nat.not_le, io_le, Nat.le_refl]
    · show PK s L (acc ++ List.filter _ [])
      rw [List.filter_nil, List.append_nil]; exact hp
  | succ k ih =>
    intro n i s acc hi hn ha f hp
    obtain ⟨n, rfl⟩ : ∃ n', n = n' + 1 := ⟨n - 1, by omega⟩
    have h1 : ¬ B ≤ i := by omega
    have h9 : ¬ 100 ≤ i := by omega
    obtain ⟨c1, c2, c3, c4, c5, c6⟩ := (C.fr f).2.1 i (by omega)
    obtain ⟨g1, g2, g3, g4, g5, g6, g7⟩ := G.2.1 i (by omega)
    have h2 : ¬ 99 < rI (L i) := by omega
    have h2' : ¬ rI (L i) < 0 := by omega
    by_cases hT : rT (L i) ≤ t
    · have h3 : ¬ t < rT (L i) := by omega
      have h4 : ¬ 100 ≤ acc.length := by omega
      obtain ⟨s', e1, e2, e3⟩ := ih n (i + 1) (sI (sA s 11 acc.length (io (rI (L i)))) 201 (io (acc.length + 1))) (acc ++ [i]) (by omega) (by omega) (by rw [List.length_append]; show acc.length + 1 ≤ i + 1; omega) ((f.A (by decide)).I (by decide)) (by
        refine ⟨by rw [List.length_append]; rfl, fun j hj => ?_⟩
        rw [List.length_append] at hj
        have hj' : j < acc.length + 1 := hj
        simp only [gI_sI, gI_sA, gI_sL, gI_sJ, gI_sR, gI_sQ, gI_sD, gI_sN, gI_sz, gA_sI, gA_sA, gA_sL, gA_sJ, gA_sR, gA_sQ, gA_sD, gA_sN, gA_sz, gL_sI, gL_sA, gL_sL, gL_sJ, gL_sR, gL_sQ, gL_sD, gL_sN, gL_sz, gJ_sI, gJ_sA, gJ_sL, gJ_sJ, gJ_sR, gJ_sQ, gJ_sD, gJ_sN, gJ_sz, gR_sI, gR_sA, gR_sL, gR_sJ, gR_sR, gR_sQ, gR_sD, gR_sN, gR_sz, gQ_sI, gQ_sA, gQ_sL, gQ_sJ, gQ_sR, gQ_sQ, gQ_sD, gQ_sN, gQ_sz, gD_sI, gD_sA, gD_sL, gD_sJ, gD_sR, gD_sQ, gD_sD, gD_sN, gD_sz, sz_sI, sz_sA, sz_sL, sz_sJ, sz_sR, sz_sQ, sz_sD, sz_sN, sz_sz, reduceIte]
        by_cases hje : j = acc.length
        · subst hje
          rw [if_pos rfl, List.getElem_append_right (Nat.le_refl _)]
          simp
        · rw [if_neg hje, List.getElem_append_left (by omega)]
          exact hp.2 j (by omega))
      refine ⟨s', ?_, ?_, e3⟩
      · simp (disch := omega) only [f_Logs_pick_b47, Option.bind_some, Nat.reduceEqDiff, Nat.add_zero, Nat.zero_add, Nat.reduceLT, Nat.reduceLeDiff, Nat.reduceAdd, Nat.reduceSub, Nat.reduceMul, Nat.reduceDiv, Nat.lt_irrefl, Nat.not_lt_zero, Nat.zero_le, Nat.one_ne_zero, Nat.succ_ne_zero,  lt_def, i32_lit, reduceIte, P_isIn_eq, M_isIn_eq, M_goes_eq, or_false, false_or, or_true, true_or, and_true, true_and, and_false, false_and, not_true, not_false_eq_true, eq_self, if_true, if_false, not_or, not_and, Nat.not_lt, Nat.not_le, io_le, h1, h9, ix_io, c1, io_lt, h2, h2', io_eq, c6, h3, hp.1, h4, gI_sI, gI_sA, gI_sL, gI_sJ, gI_sR, gI_sQ, gI_sD, gI_sN, gI_sz, gA_sI, gA_sA, gA_sL, gA_sJ, gA_sR, gA_sQ, gA_sD, gA_sN, gA_sz, gL_sI, gL_sA, gL_sL, gL_sJ, gL_sR, gL_sQ, gL_sD, gL_sN, gL_sz, gJ_sI, gJ_sA, gJ_sL, gJ_sJ, gJ_sR, gJ_sQ, gJ_sD, gJ_sN, gJ_sz, gR_sI, gR_sA, gR_sL, gR_sJ, gR_sR, gR_sQ, gR_sD, gR_sN, gR_sz, gQ_sI, gQ_sA, gQ_sL, gQ_sJ, gQ_sR, gQ_sQ, gQ_sD, gQ_sN, gQ_sz, gD_sI, gD_sA, gD_sL, gD_sJ, gD_sR, gD_sQ, gD_sD, gD_sN, gD_sz, sz_sI, sz_sA, sz_sL, sz_sJ, sz_sR, sz_sQ, sz_sD, sz_sN, sz_sz, io_add]
        exact e1
      · rw [List.range'_succ, List.filter_cons_of_pos (by simpa using hT)]
        rw [List.append_assoc] at e2
        exact e2
    · have h3 : t < rT (L i) := by omega
      obtain ⟨s', e1, e2, e3⟩ := ih n (i + 1) s acc (by omega) (by omega) (by omega) f hp
      refine ⟨s', ?_, ?_, e3⟩
      · simp (disch := omega) only [f_Logs_pick_b47, Option.bind_some, Nat.reduceEqDiff, Nat.add_zero, Nat.zero_add, Nat.reduceLT, Nat.reduceLeDiff, Nat.reduceAdd, Nat.reduceSub, Nat.reduceMul, Nat.reduceDiv, Nat.lt_irrefl, Nat.not_lt_zero, Nat.zero_le, Nat.one_ne_zero, Nat.succ_ne_zero,  lt_def, i32_lit, reduceIte, P_isIn_eq, M_isIn_eq, M_goes_eq, or_false, false_or, or_true, true_or, and_true, true_and, and_false, false_and, not_true, not_false_eq_true, eq_self, if_true, if_false, not_or, not_and, Nat.not_lt, Nat.not_le, io_le, h1, h9, ix_io, c1, io_lt, h2, h2', io_eq, c6, h3, io_add]
        exact e1
      · rw [List.range'_succ, List.filter_cons_of_neg (by simpa using hT)]
        exact e2
theorem lplace_iff' {L : Nat → LR} {m h x : Nat} (G : LGg L m h) {k : Nat} (hk : k < m) : rH (L k) < x ↔ k < cnt (fun k => decide (rH (L k) < x)) m := by
  have h1 := cnt_sorted (p := fun k => decide (rH (L k) < x)) m (fun k k' h1 h2 h3 => by
    have h4 := G.2.2 k k' h1 h2
    have h5 := of_decide_eq_true h3
    exact decide_eq_true (by omega)) k hk
  rw [← h1]
  simp only [decide_eq_true_eq]
theorem filter_range_mid {p q : Nat → Bool} {A B m : Nat} (hAB : A ≤ B) (hB : B ≤ m) (h : ∀ k, k < m → (p k = true ↔ (A ≤ k ∧ k < B ∧ q k = true))) : (List.range m).filter p = (List.range' A (B - A)).filter q := by
  have e1 : List.range m = List.range' 0 A ++ (List.range' A (B - A) ++ List.range' B (m - B)) := by
    rw [List.range_eq_range']
    have a1 := List.range'_append_1 (s := A) (m := B - A) (n := m - B)
    rw [show A + (B - A) = B by omega] at a1
    rw [a1]
    have a2 := List.range'_append_1 (s := 0) (m := A) (n := B - A + (m - B))
    rw [show 0 + A = A by omega] at a2
    rw [a2]
    congr 1
    omega
  rw [e1, List.filter_append, List.filter_append]
  have f1 : (List.range' 0 A).filter p = [] := List.filter_eq_nil_iff.mpr fun k hk => by
    rw [List.mem_range'_1] at hk
    intro hp
    have := (h k (by omega)).mp hp
    omega
  have f3 : (List.range' B (m - B)).filter p = [] := List.filter_eq_nil_iff.mpr fun k hk => by
    rw [List.mem_range'_1] at hk
    intro hp
    have := (h k (by omega)).mp hp
    omega
  have f2 : (List.range' A (B - A)).filter p = (List.range' A (B - A)).filter q := List.filter_congr fun k hk => by
    rw [List.mem_range'_1] at hk
    have := h k (by omega)
    cases hp : p k <;> cases hq : q k <;> simp_all
  rw [f1, f2, f3, List.nil_append, List.append_nil]
theorem pick_eq {F h m a b t : Nat} (hF : 5000 ≤ F) {s : St} {L : Nat → LR} (C : LGc s L m) (G : LGg L m h) (hh : h ≤ 1000) (ht : t ≤ 1000) (hab : a ≤ b) (hb : b ≤ 1000) : ∃ s', f_Logs_pick F s (io a) (io b) (io t) = some s' ∧ PK s' L (pks L m a b t) ∧ Fr [201] [11] s s' := by
  have hm := G.1
  have eA := C.2.2 a (by omega)
  have eB := C.2.2 (b + 1) (by omega)
  have hiA : ∀ k, k < m → (rH (L k) < a ↔ k < cnt (fun k => decide (rH (L k) < a)) m) := fun k hk => lplace_iff' G hk
  have hiB : ∀ k, k < m → (rH (L k) < b + 1 ↔ k < cnt (fun k => decide (rH (L k) < b + 1)) m) := fun k hk => lplace_iff' G hk
  have hBm : cnt (fun k => decide (rH (L k) < b + 1)) m ≤ m := cnt_le _ _
  have hAm : cnt (fun k => decide (rH (L k) < a)) m ≤ m := cnt_le _ _
  generalize cnt (fun k => decide (rH (L k) < a)) m = A at eA hiA hAm
  generalize cnt (fun k => decide (rH (L k) < b + 1)) m = B at eB hiB hBm
  have hAB : A ≤ B := by
    rcases Nat.lt_or_ge B A with hlt | hge
    · have h1 := (hiA B (by omega)).mpr hlt
      have h2 := (hiB B (by omega)).mp (by omega)
      omega
    · exact hge
  have f1 : Fr [201] [11] s (sI s 201 (io 0)) := Fr.rf.I (by decide)
  obtain ⟨s', e1, e2, e3⟩ := pick_loop (F := F) C G hh ht hBm (B - A) F A (sI s 201 (io 0)) [] (by omega) (by omega) (Nat.zero_le _) f1 ⟨rfl, fun i hi => by exact absurd hi (Nat.not_lt_zero _)⟩
  refine ⟨s', ?_, ?_, e3⟩
  · have n1 : ¬ 1000 < a := by omega
    have n2 : ¬ b < a := by omega
    have n3 : ¬ 1000 < b := by omega
    have n4 : (if io m < io B then io m else io B) = io B := by
      rw [if_neg (by rw [io_lt (by omega) (by omega)]; omega)]
    have n5 : (if io 0 < io A then io A else io 0) = io A := by
      by_cases h0 : A = 0
      · subst h0; rw [ite_self]
      · rw [if_pos (by rw [io_lt (by omega) (by omega)]; omega)]
    have e200 := C.1
    have en4 : (if gI (sI s 201 (io 0)) 200 < gA (sI s 201 (io 0)) 10 (b + 1) then gI (sI s 201 (io 0)) 200 else gA (sI s 201 (io 0)) 10 (b + 1)) = io B := by
      show (if gI s 200 < gA s 10 (b + 1) then gI s 200 else gA s 10 (b + 1)) = _
      rw [e200, eB]; exact n4
    have en5 : (if io 0 < gA (sI s 201 (io 0)) 10 a then gA (sI s 201 (io 0)) 10 a else io 0) = io A := by
      show (if io 0 < gA s 10 a then gA s 10 a else io 0) = _
      rw [eA]; exact n5
    have c1 : (if io a < io 0 ∨ io 1000 < io a then io 0 else io 1) = io 1 := by
      rw [if_neg]; rw [io_lt (by omega) (by omega), io_lt (by omega) (by omega)]; omega
    have c2 : (if io b < io a ∨ io 1000 < io b then io 0 else io 1) = io 1 := by
      rw [if_neg]; rw [io_lt (by omega) (by omega), io_lt (by omega) (by omega)]; omega
    simp (disch := omega) only [f_Logs_pick, f_P_isRange, Option.bind_some, Nat.reduceEqDiff, Nat.add_zero, Nat.zero_add, Nat.reduceLT, Nat.reduceLeDiff, Nat.reduceAdd, Nat.reduceSub, Nat.reduceMul, Nat.reduceDiv, Nat.lt_irrefl, Nat.not_lt_zero, Nat.zero_le, Nat.one_ne_zero, Nat.succ_ne_zero,  lt_def, i32_lit, reduceIte, P_isIn_eq, M_isIn_eq, M_goes_eq, or_false, false_or, or_true, true_or, and_true, true_and, and_false, false_and, not_true, not_false_eq_true, eq_self, if_true, if_false, not_or, not_and, Nat.not_lt, Nat.not_le, c1, c2, io_eq, io_add, ix_io, en4]
    exact (congrArg (f_Logs_pick_b47 F F (sI s 201 (io 0)) (io t) (io B)) en5).trans e1
  · rw [List.nil_append] at e2
    have : pks L m a b t = (List.range' A (B - A)).filter (fun k => decide (rT (L k) ≤ t)) := filter_range_mid hAB hBm (fun k hk => by
      unfold inW
      rw [decide_eq_true_eq, decide_eq_true_eq]
      have h1 := hiA k hk
      have h2 := hiB k hk
      omega)
    rw [this]
    exact e2
/-- a field of a picked log, by the class -/
theorem fieldOf_eq {F h m k f : Nat} {s : St} {L : Nat → LR} (C : LGc s L m) (G : LGg L m h) (hh : h ≤ 1000) (hk : k < m) (hf : f < 2147483648) : f_Logs_fieldOf F s (io f) (io (rI (L k))) = some (fld f (rec1 (L k)), s) := by
  have hm := G.1
  obtain ⟨c1, c2, c3, c4, c5, c6⟩ := C.2.1 k hk
  obtain ⟨g1, g2, g3, g4, g5, g6, g7⟩ := G.2.1 k hk
  have n1 : ¬ rI (L k) < 0 := by omega
  have n2 : ¬ m ≤ rI (L k) := by omega
  have n3 : rI (L k) < 100 := by omega
  unfold fld rec1
  by_cases e1 : f = 104
  · subst e1
    simp (disch := omega) only [f_Logs_fieldOf, Option.bind_some, Nat.reduceEqDiff, Nat.add_zero, Nat.zero_add, Nat.reduceLT, Nat.reduceLeDiff, Nat.reduceAdd, Nat.reduceSub, Nat.reduceMul, Nat.reduceDiv, Nat.lt_irrefl, Nat.not_lt_zero, Nat.zero_le, Nat.one_ne_zero, Nat.succ_ne_zero,  lt_def, i32_lit, reduceIte, P_isIn_eq, M_isIn_eq, M_goes_eq, or_false, false_or, or_true, true_or, and_true, true_and, and_false, false_and, not_true, not_false_eq_true, eq_self, if_true, if_false, not_or, not_and, Nat.not_lt, Nat.not_le, io_lt, io_le, C.1, n1, n2, n3, ix_io, c5, io_div, io_mul, io_modE]
  · by_cases e2 : f = 108
    · subst e2
      simp (disch := omega) only [f_Logs_fieldOf, Option.bind_some, Nat.reduceEqDiff, Nat.add_zero, Nat.zero_add, Nat.reduceLT, Nat.reduceLeDiff, Nat.reduceAdd, Nat.reduceSub, Nat.reduceMul, Nat.reduceDiv, Nat.lt_irrefl, Nat.not_lt_zero, Nat.zero_le, Nat.one_ne_zero, Nat.succ_ne_zero,  lt_def, i32_lit, reduceIte, P_isIn_eq, M_isIn_eq, M_goes_eq, or_false, false_or, or_true, true_or, and_true, true_and, and_false, false_and, not_true, not_false_eq_true, eq_self, if_true, if_false, not_or, not_and, Nat.not_lt, Nat.not_le, io_lt, io_le, io_eq, C.1, n1, n2, n3, ix_io, c3]
    · by_cases e3 : f = 112
      · subst e3
        simp (disch := omega) only [f_Logs_fieldOf, Option.bind_some, Nat.reduceEqDiff, Nat.add_zero, Nat.zero_add, Nat.reduceLT, Nat.reduceLeDiff, Nat.reduceAdd, Nat.reduceSub, Nat.reduceMul, Nat.reduceDiv, Nat.lt_irrefl, Nat.not_lt_zero, Nat.zero_le, Nat.one_ne_zero, Nat.succ_ne_zero,  lt_def, i32_lit, reduceIte, P_isIn_eq, M_isIn_eq, M_goes_eq, or_false, false_or, or_true, true_or, and_true, true_and, and_false, false_and, not_true, not_false_eq_true, eq_self, if_true, if_false, not_or, not_and, Nat.not_lt, Nat.not_le, io_lt, io_le, io_eq, C.1, n1, n2, n3, ix_io, c2]
      · by_cases e4 : f = 118
        · subst e4
          simp (disch := omega) only [f_Logs_fieldOf, Option.bind_some, Nat.reduceEqDiff, Nat.add_zero, Nat.zero_add, Nat.reduceLT, Nat.reduceLeDiff, Nat.reduceAdd, Nat.reduceSub, Nat.reduceMul, Nat.reduceDiv, Nat.lt_irrefl, Nat.not_lt_zero, Nat.zero_le, Nat.one_ne_zero, Nat.succ_ne_zero,  lt_def, i32_lit, reduceIte, P_isIn_eq, M_isIn_eq, M_goes_eq, or_false, false_or, or_true, true_or, and_true, true_and, and_false, false_and, not_true, not_false_eq_true, eq_self, if_true, if_false, not_or, not_and, Nat.not_lt, Nat.not_le, io_lt, io_le, io_eq, C.1, n1, n2, n3, ix_io, c4]
        · simp (disch := omega) only [f_Logs_fieldOf, Option.bind_some, Nat.reduceEqDiff, Nat.add_zero, Nat.zero_add, Nat.reduceLT, Nat.reduceLeDiff, Nat.reduceAdd, Nat.reduceSub, Nat.reduceMul, Nat.reduceDiv, Nat.lt_irrefl, Nat.not_lt_zero, Nat.zero_le, Nat.one_ne_zero, Nat.succ_ne_zero,  lt_def, i32_lit, reduceIte, P_isIn_eq, M_isIn_eq, M_goes_eq, or_false, false_or, or_true, true_or, and_true, true_and, and_false, false_and, not_true, not_false_eq_true, eq_self, if_true, if_false, not_or, not_and, Nat.not_lt, Nat.not_le, io_lt, io_le, io_eq, C.1, n1, n2, n3, e1, e2, e3, e4]
