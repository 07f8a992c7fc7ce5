/-! who holds a shift -/
def cl (x : Int32) : Nat := x.toNatClampNeg
theorem cl_io {a : Nat} (ha : a < 2147483648) : cl (io a) = a := io_clamp ha
def pd (s : St) (j q i : Nat) : Bool := decide (gA s 17 i = io q ∧ gA s 56 (126 * cl (gA s 16 i) + j) = io 0)
def paidI (s : St) (n d j : Nat) : Int32 := if n = 0 then -io 1 else if j % 3 = 0 then (if gA s 56 (126 * cl (plan s n j) + j) = io 0 then fup (pd s j (cl (plan s n j))) io 0 d else -io 1) else -io 1
def hop (s : St) (n j q k : Nat) : Bool := decide (gA s 56 (126 * ((q + k) % n) + j) = io 0)
def hold (s : St) (n d j : Nat) : Int32 := if n = 0 then -io 1 else
  if gA s 56 (126 * cl (plan s n j) + j) = io 0 then (if paidI s n d j = -io 1 then plan s n j else gA s 16 (cl (paidI s n d j)))
  else fup (hop s n j (cl (plan s n j))) (fun k => io ((cl (plan s n j) + k) % n)) 1 (n - 1)
theorem paid_or {s : St} {n d j : Nat} : paidI s n d j = -io 1 ∨ ∃ i, i < d ∧ paidI s n d j = io i := by
  unfold paidI
  by_cases h0 : n = 0
  · rw [if_pos h0]; exact Or.inl rfl
  · rw [if_neg h0]
    by_cases h1 : j % 3 = 0
    · rw [if_pos h1]
      by_cases h2 : gA s 56 (126 * cl (plan s n j) + j) = io 0
      · rw [if_pos h2]
        rcases fup_some (p := pd s j (cl (plan s n j))) (v := io) d 0 with h | ⟨i, h3, h4, h5, h6⟩
        · exact Or.inl h
        · exact Or.inr ⟨i, by omega, h6⟩
      · rw [if_neg h2]; exact Or.inl rfl
    · rw [if_neg h1]; exact Or.inl rfl
theorem P_debt_loop {F h n d : Nat} {s : St} (P : PE s n) (R : RO s h n) (Q : DB s n d) {j q : Nat} (hj : j < 126) : ∀ (k m i : Nat), i + k = d → k < m → f_Rota_debtPaidIn_b31 F m s (io j) (io q) (io i) = some (fup (pd s j q) io i (d - i), s) := by
  have hd := Q.1
  have hn := P.1
  have e1 := Q.2.1
  intro k
  induction k with
  | zero =>
    intro m i hi hm
    obtain ⟨m, rfl⟩ : ∃ m', m = m' + 1 := ⟨m - 1, by omega⟩
    have hi' : i = d := by omega
    subst hi'
    simp (disch := omega) only [f_Rota_debtPaidIn_b31, Option.bind_some, Nat.reduceEqDiff, Nat.add_zero, Nat.zero_add, Nat.reduceLT, Nat.reduceLeDiff, Nat.reduceAdd, Nat.reduceSub, Nat.reduceMul, Nat.reduceDiv, Nat.lt_irrefl, Nat.not_lt_zero, Nat.zero_le, Nat.one_ne_zero, Nat.succ_ne_zero,  lt_def, i32_lit, reduceIte, P_isIn_eq, M_isIn_eq, M_goes_eq, or_false, false_or, or_true, true_or, and_true, true_and, and_false, false_and, not_true, not_false_eq_true, eq_self, if_true, if_false, not_or, not_and, Nat.not_lt, Nat.not_le, io_lt, io_le, io_eq, io_neg1, io_neg1', neg1_lt, io_le_neg1, io_lt_neg1, io_add, io_mul, io_pred, io_modE, natMod, io_sub, io_div, ix_io, gI_sI, gI_sA, gI_sL, gI_sJ, gI_sR, gI_sQ, gI_sD, gI_sN, gI_sz, gA_sI, gA_sA, gA_sL, gA_sJ, gA_sR, gA_sQ, gA_sD, gA_sN, gA_sz, gL_sI, gL_sA, gL_sL, gL_sJ, gL_sR, gL_sQ, gL_sD, gL_sN, gL_sz, gJ_sI, gJ_sA, gJ_sL, gJ_sJ, gJ_sR, gJ_sQ, gJ_sD, gJ_sN, gJ_sz, gR_sI, gR_sA, gR_sL, gR_sJ, gR_sR, gR_sQ, gR_sD, gR_sN, gR_sz, gQ_sI, gQ_sA, gQ_sL, gQ_sJ, gQ_sR, gQ_sQ, gQ_sD, gQ_sN, gQ_sz, gD_sI, gD_sA, gD_sL, gD_sJ, gD_sR, gD_sQ, gD_sD, gD_sN, gD_sz, sz_sI, sz_sA, sz_sL, sz_sJ, sz_sR, sz_sQ, sz_sD, sz_sN, sz_sz, e1, Nat.le_refl, Nat.sub_self, fup]
  | succ k ih =>
    intro m i hi hm
    obtain ⟨m, rfl⟩ : ∃ m', m = m' + 1 := ⟨m - 1, by omega⟩
    have h1 : ¬ d ≤ i := by omega
    have h2 : ¬ 4000 ≤ i := by omega
    have h3 := ih m (i + 1) (by omega) (by omega)
    have hs : d - i = (d - (i + 1)) + 1 := by omega
    obtain ⟨a, b, ha, hb, f1, f2, f3⟩ := Q.2.2.2 i (by omega)
    rw [hs, fup]
    have ca : cl (io a) = a := cl_io (by omega)
    by_cases h4 : gA s 17 i = io q
    · have ho := P_isOff_eq (F := F) R (show a < 8 by omega) hj
      rcases off_bit R (show a < 8 by omega) hj with h5 | h5
      · rw [if_pos (by simp [pd, h4, f1, ca, h5])]
        simp (disch := omega) only [f_Rota_debtPaidIn_b31, Option.bind_some, Nat.reduceEqDiff, Nat.add_zero, Nat.zero_add, Nat.reduceLT, Nat.reduceLeDiff, Nat.reduceAdd, Nat.reduceSub, Nat.reduceMul, Nat.reduceDiv, Nat.lt_irrefl, Nat.not_lt_zero, Nat.zero_le, Nat.one_ne_zero, Nat.succ_ne_zero,  lt_def, i32_lit, reduceIte, P_isIn_eq, M_isIn_eq, M_goes_eq, or_false, false_or, or_true, true_or, and_true, true_and, and_false, false_and, not_true, not_false_eq_true, eq_self, if_true, if_false, not_or, not_and, Nat.not_lt, Nat.not_le, io_lt, io_le, io_eq, io_neg1, io_neg1', neg1_lt, io_le_neg1, io_lt_neg1, io_add, io_mul, io_pred, io_modE, natMod, io_sub, io_div, ix_io, gI_sI, gI_sA, gI_sL, gI_sJ, gI_sR, gI_sQ, gI_sD, gI_sN, gI_sz, gA_sI, gA_sA, gA_sL, gA_sJ, gA_sR, gA_sQ, gA_sD, gA_sN, gA_sz, gL_sI, gL_sA, gL_sL, gL_sJ, gL_sR, gL_sQ, gL_sD, gL_sN, gL_sz, gJ_sI, gJ_sA, gJ_sL, gJ_sJ, gJ_sR, gJ_sQ, gJ_sD, gJ_sN, gJ_sz, gR_sI, gR_sA, gR_sL, gR_sJ, gR_sR, gR_sQ, gR_sD, gR_sN, gR_sz, gQ_sI, gQ_sA, gQ_sL, gQ_sJ, gQ_sR, gQ_sQ, gQ_sD, gQ_sN, gQ_sz, gD_sI, gD_sA, gD_sL, gD_sJ, gD_sR, gD_sQ, gD_sD, gD_sN, gD_sz, sz_sI, sz_sA, sz_sL, sz_sJ, sz_sR, sz_sQ, sz_sD, sz_sN, sz_sz, e1, h1, h2, h4, f1, ho, h5]
      · rw [if_neg (by simp (disch := omega) only [pd, h4, f1, ca, h5, Option.bind_some, Nat.reduceEqDiff, Nat.add_zero, Nat.zero_add, Nat.reduceLT, Nat.reduceLeDiff, Nat.reduceAdd, Nat.reduceSub, Nat.reduceMul, Nat.reduceDiv, Nat.lt_irrefl, Nat.not_lt_zero, Nat.zero_le, Nat.one_ne_zero, Nat.succ_ne_zero,  lt_def, i32_lit, reduceIte, P_isIn_eq, M_isIn_eq, M_goes_eq, or_false, false_or, or_true, true_or, and_true, true_and, and_false, false_and, not_true, not_false_eq_true, eq_self, if_true, if_false, not_or, not_and, Nat.not_lt, Nat.not_le, io_lt, io_le, io_eq, io_neg1, io_neg1', neg1_lt, io_le_neg1, io_lt_neg1, io_add, io_mul, io_pred, io_modE, natMod, io_sub, io_div, ix_io, gI_sI, gI_sA, gI_sL, gI_sJ, gI_sR, gI_sQ, gI_sD, gI_sN, gI_sz, gA_sI, gA_sA, gA_sL, gA_sJ, gA_sR, gA_sQ, gA_sD, gA_sN, gA_sz, gL_sI, gL_sA, gL_sL, gL_sJ, gL_sR, gL_sQ, gL_sD, gL_sN, gL_sz, gJ_sI, gJ_sA, gJ_sL, gJ_sJ, gJ_sR, gJ_sQ, gJ_sD, gJ_sN, gJ_sz, gR_sI, gR_sA, gR_sL, gR_sJ, gR_sR, gR_sQ, gR_sD, gR_sN, gR_sz, gQ_sI, gQ_sA, gQ_sL, gQ_sJ, gQ_sR, gQ_sQ, gQ_sD, gQ_sN, gQ_sz, gD_sI, gD_sA, gD_sL, gD_sJ, gD_sR, gD_sQ, gD_sD, gD_sN, gD_sz, sz_sI, sz_sA, sz_sL, sz_sJ, sz_sR, sz_sQ, sz_sD, sz_sN, sz_sz, decide_false, Bool.false_eq_true])]
        simp (disch := omega) only [f_Rota_debtPaidIn_b31, Option.bind_some, Nat.reduceEqDiff, Nat.add_zero, Nat.zero_add, Nat.reduceLT, Nat.reduceLeDiff, Nat.reduceAdd, Nat.reduceSub, Nat.reduceMul, Nat.reduceDiv, Nat.lt_irrefl, Nat.not_lt_zero, Nat.zero_le, Nat.one_ne_zero, Nat.succ_ne_zero,  lt_def, i32_lit, reduceIte, P_isIn_eq, M_isIn_eq, M_goes_eq, or_false, false_or, or_true, true_or, and_true, true_and, and_false, false_and, not_true, not_false_eq_true, eq_self, if_true, if_false, not_or, not_and, Nat.not_lt, Nat.not_le, io_lt, io_le, io_eq, io_neg1, io_neg1', neg1_lt, io_le_neg1, io_lt_neg1, io_add, io_mul, io_pred, io_modE, natMod, io_sub, io_div, ix_io, gI_sI, gI_sA, gI_sL, gI_sJ, gI_sR, gI_sQ, gI_sD, gI_sN, gI_sz, gA_sI, gA_sA, gA_sL, gA_sJ, gA_sR, gA_sQ, gA_sD, gA_sN, gA_sz, gL_sI, gL_sA, gL_sL, gL_sJ, gL_sR, gL_sQ, gL_sD, gL_sN, gL_sz, gJ_sI, gJ_sA, gJ_sL, gJ_sJ, gJ_sR, gJ_sQ, gJ_sD, gJ_sN, gJ_sz, gR_sI, gR_sA, gR_sL, gR_sJ, gR_sR, gR_sQ, gR_sD, gR_sN, gR_sz, gQ_sI, gQ_sA, gQ_sL, gQ_sJ, gQ_sR, gQ_sQ, gQ_sD, gQ_sN, gQ_sz, gD_sI, gD_sA, gD_sL, gD_sJ, gD_sR, gD_sQ, gD_sD, gD_sN, gD_sz, sz_sI, sz_sA, sz_sL, sz_sJ, sz_sR, sz_sQ, sz_sD, sz_sN, sz_sz, e1, h1, h2, h4, f1, ho, h5]
        exact h3
    · rw [if_neg (by simp [pd, h4])]
      simp (disch := omega) only [f_Rota_debtPaidIn_b31, Option.bind_some, Nat.reduceEqDiff, Nat.add_zero, Nat.zero_add, Nat.reduceLT, Nat.reduceLeDiff, Nat.reduceAdd, Nat.reduceSub, Nat.reduceMul, Nat.reduceDiv, Nat.lt_irrefl, Nat.not_lt_zero, Nat.zero_le, Nat.one_ne_zero, Nat.succ_ne_zero,  lt_def, i32_lit, reduceIte, P_isIn_eq, M_isIn_eq, M_goes_eq, or_false, false_or, or_true, true_or, and_true, true_and, and_false, false_and, not_true, not_false_eq_true, eq_self, if_true, if_false, not_or, not_and, Nat.not_lt, Nat.not_le, io_le, io_add, ix_io, e1, h1, h2, h4]
      exact h3
theorem P_debtPaid_eq {F h n d : Nat} (hF : 5000 ≤ F) {s : St} (P : PE s n) (R : RO s h n) (Q : DB s n d) {j : Nat} (hj : j < 126) : f_Rota_debtPaidIn F s (io j) = some (paidI s n d j, s) := by
  have hd := Q.1
  have hn := P.1
  unfold paidI
  by_cases h0 : n = 0
  · subst h0
    have e : plan s 0 j = -io 1 := by unfold plan; rw [if_pos rfl]
    simp (disch := omega) only [f_Rota_debtPaidIn, Option.bind_some, Nat.reduceEqDiff, Nat.add_zero, Nat.zero_add, Nat.reduceLT, Nat.reduceLeDiff, Nat.reduceAdd, Nat.reduceSub, Nat.reduceMul, Nat.reduceDiv, Nat.lt_irrefl, Nat.not_lt_zero, Nat.zero_le, Nat.one_ne_zero, Nat.succ_ne_zero,  lt_def, i32_lit, reduceIte, P_isIn_eq, M_isIn_eq, M_goes_eq, or_false, false_or, or_true, true_or, and_true, true_and, and_false, false_and, not_true, not_false_eq_true, eq_self, if_true, if_false, not_or, not_and, Nat.not_lt, Nat.not_le, io_lt, io_le, io_eq, io_neg1, io_neg1', neg1_lt, io_le_neg1, io_lt_neg1, io_add, io_mul, io_pred, io_modE, natMod, io_sub, io_div, ix_io, gI_sI, gI_sA, gI_sL, gI_sJ, gI_sR, gI_sQ, gI_sD, gI_sN, gI_sz, gA_sI, gA_sA, gA_sL, gA_sJ, gA_sR, gA_sQ, gA_sD, gA_sN, gA_sz, gL_sI, gL_sA, gL_sL, gL_sJ, gL_sR, gL_sQ, gL_sD, gL_sN, gL_sz, gJ_sI, gJ_sA, gJ_sL, gJ_sJ, gJ_sR, gJ_sQ, gJ_sD, gJ_sN, gJ_sz, gR_sI, gR_sA, gR_sL, gR_sJ, gR_sR, gR_sQ, gR_sD, gR_sN, gR_sz, gQ_sI, gQ_sA, gQ_sL, gQ_sJ, gQ_sR, gQ_sQ, gQ_sD, gQ_sN, gQ_sz, gD_sI, gD_sA, gD_sL, gD_sJ, gD_sR, gD_sQ, gD_sD, gD_sN, gD_sz, sz_sI, sz_sA, sz_sL, sz_sJ, sz_sR, sz_sQ, sz_sD, sz_sN, sz_sz, P_planned_eq P R hj, e]
  · obtain ⟨q, hq, e⟩ := plan_some R hj h0
    have cq : cl (io q) = q := cl_io (by omega)
    by_cases h1 : j % 3 = 0
    · have ho := P_isOff_eq (F := F) R (show q < 8 by omega) hj
      rcases off_bit R (show q < 8 by omega) hj with h5 | h5
      · have hl := P_debt_loop (F := F) P R Q (q := q) hj d F 0 (by omega) (by omega)
        simp (disch := omega) only [f_Rota_debtPaidIn, Option.bind_some, Nat.reduceEqDiff, Nat.add_zero, Nat.zero_add, Nat.reduceLT, Nat.reduceLeDiff, Nat.reduceAdd, Nat.reduceSub, Nat.reduceMul, Nat.reduceDiv, Nat.lt_irrefl, Nat.not_lt_zero, Nat.zero_le, Nat.one_ne_zero, Nat.succ_ne_zero,  lt_def, i32_lit, reduceIte, P_isIn_eq, M_isIn_eq, M_goes_eq, or_false, false_or, or_true, true_or, and_true, true_and, and_false, false_and, not_true, not_false_eq_true, eq_self, if_true, if_false, not_or, not_and, Nat.not_lt, Nat.not_le, io_lt, io_le, io_eq, io_neg1, io_neg1', neg1_lt, io_le_neg1, io_lt_neg1, io_add, io_mul, io_pred, io_modE, natMod, io_sub, io_div, ix_io, gI_sI, gI_sA, gI_sL, gI_sJ, gI_sR, gI_sQ, gI_sD, gI_sN, gI_sz, gA_sI, gA_sA, gA_sL, gA_sJ, gA_sR, gA_sQ, gA_sD, gA_sN, gA_sz, gL_sI, gL_sA, gL_sL, gL_sJ, gL_sR, gL_sQ, gL_sD, gL_sN, gL_sz, gJ_sI, gJ_sA, gJ_sL, gJ_sJ, gJ_sR, gJ_sQ, gJ_sD, gJ_sN, gJ_sz, gR_sI, gR_sA, gR_sL, gR_sJ, gR_sR, gR_sQ, gR_sD, gR_sN, gR_sz, gQ_sI, gQ_sA, gQ_sL, gQ_sJ, gQ_sR, gQ_sQ, gQ_sD, gQ_sN, gQ_sz, gD_sI, gD_sA, gD_sL, gD_sJ, gD_sR, gD_sQ, gD_sD, gD_sN, gD_sz, sz_sI, sz_sA, sz_sL, sz_sJ, sz_sR, sz_sQ, sz_sD, sz_sN, sz_sz, P_planned_eq P R hj, e, h0, P_night_eq, h1, ho, h5, cq]
        exact hl
      · simp (disch := omega) only [f_Rota_debtPaidIn, Option.bind_some, Nat.reduceEqDiff, Nat.add_zero, Nat.zero_add, Nat.reduceLT, Nat.reduceLeDiff, Nat.reduceAdd, Nat.reduceSub, Nat.reduceMul, Nat.reduceDiv, Nat.lt_irrefl, Nat.not_lt_zero, Nat.zero_le, Nat.one_ne_zero, Nat.succ_ne_zero,  lt_def, i32_lit, reduceIte, P_isIn_eq, M_isIn_eq, M_goes_eq, or_false, false_or, or_true, true_or, and_true, true_and, and_false, false_and, not_true, not_false_eq_true, eq_self, if_true, if_false, not_or, not_and, Nat.not_lt, Nat.not_le, io_lt, io_le, io_eq, io_neg1, io_neg1', neg1_lt, io_le_neg1, io_lt_neg1, io_add, io_mul, io_pred, io_modE, natMod, io_sub, io_div, ix_io, gI_sI, gI_sA, gI_sL, gI_sJ, gI_sR, gI_sQ, gI_sD, gI_sN, gI_sz, gA_sI, gA_sA, gA_sL, gA_sJ, gA_sR, gA_sQ, gA_sD, gA_sN, gA_sz, gL_sI, gL_sA, gL_sL, gL_sJ, gL_sR, gL_sQ, gL_sD, gL_sN, gL_sz, gJ_sI, gJ_sA, gJ_sL, gJ_sJ, gJ_sR, gJ_sQ, gJ_sD, gJ_sN, gJ_sz, gR_sI, gR_sA, gR_sL, gR_sJ, gR_sR, gR_sQ, gR_sD, gR_sN, gR_sz, gQ_sI, gQ_sA, gQ_sL, gQ_sJ, gQ_sR, gQ_sQ, gQ_sD, gQ_sN, gQ_sz, gD_sI, gD_sA, gD_sL, gD_sJ, gD_sR, gD_sQ, gD_sD, gD_sN, gD_sz, sz_sI, sz_sA, sz_sL, sz_sJ, sz_sR, sz_sQ, sz_sD, sz_sN, sz_sz, P_planned_eq P R hj, e, h0, P_night_eq, h1, ho, h5, cq]
    · simp (disch := omega) only [f_Rota_debtPaidIn, Option.bind_some, Nat.reduceEqDiff, Nat.add_zero, Nat.zero_add, Nat.reduceLT, Nat.reduceLeDiff, Nat.reduceAdd, Nat.reduceSub, Nat.reduceMul, Nat.reduceDiv, Nat.lt_irrefl, Nat.not_lt_zero, Nat.zero_le, Nat.one_ne_zero, Nat.succ_ne_zero,  lt_def, i32_lit, reduceIte, P_isIn_eq, M_isIn_eq, M_goes_eq, or_false, false_or, or_true, true_or, and_true, true_and, and_false, false_and, not_true, not_false_eq_true, eq_self, if_true, if_false, not_or, not_and, Nat.not_lt, Nat.not_le, io_lt, io_le, io_eq, io_neg1, io_neg1', neg1_lt, io_le_neg1, io_lt_neg1, io_add, io_mul, io_pred, io_modE, natMod, io_sub, io_div, ix_io, gI_sI, gI_sA, gI_sL, gI_sJ, gI_sR, gI_sQ, gI_sD, gI_sN, gI_sz, gA_sI, gA_sA, gA_sL, gA_sJ, gA_sR, gA_sQ, gA_sD, gA_sN, gA_sz, gL_sI, gL_sA, gL_sL, gL_sJ, gL_sR, gL_sQ, gL_sD, gL_sN, gL_sz, gJ_sI, gJ_sA, gJ_sL, gJ_sJ, gJ_sR, gJ_sQ, gJ_sD, gJ_sN, gJ_sz, gR_sI, gR_sA, gR_sL, gR_sJ, gR_sR, gR_sQ, gR_sD, gR_sN, gR_sz, gQ_sI, gQ_sA, gQ_sL, gQ_sJ, gQ_sR, gQ_sQ, gQ_sD, gQ_sN, gQ_sz, gD_sI, gD_sA, gD_sL, gD_sJ, gD_sR, gD_sQ, gD_sD, gD_sN, gD_sz, sz_sI, sz_sA, sz_sL, sz_sJ, sz_sR, sz_sQ, sz_sD, sz_sN, sz_sz, P_planned_eq P R hj, e, h0, P_night_eq, h1]
theorem P_hold_loop {F h n : Nat} {s : St} (P : PE s n) (R : RO s h n) (hn0 : n ≠ 0) {j q : Nat} (hq : q < n) (hj : j < 126) : ∀ (k m i : Nat), i + k = n → k < m → f_Rota_holderToBe_b37 F m s (io j) (io q) (io i) = some (fup (hop s n j q) (fun k => io ((q + k) % n)) i (n - i), s) := by
  have hn := P.1
  have e1 := P.2.1
  intro k
  induction k with
  | zero =>
    intro m i hi hm
    obtain ⟨m, rfl⟩ : ∃ m', m = m' + 1 := ⟨m - 1, by omega⟩
    have hi' : i = n := by omega
    subst hi'
    simp (disch := omega) only [f_Rota_holderToBe_b37, Option.bind_some, Nat.reduceEqDiff, Nat.add_zero, Nat.zero_add, Nat.reduceLT, Nat.reduceLeDiff, Nat.reduceAdd, Nat.reduceSub, Nat.reduceMul, Nat.reduceDiv, Nat.lt_irrefl, Nat.not_lt_zero, Nat.zero_le, Nat.one_ne_zero, Nat.succ_ne_zero,  lt_def, i32_lit, reduceIte, P_isIn_eq, M_isIn_eq, M_goes_eq, or_false, false_or, or_true, true_or, and_true, true_and, and_false, false_and, not_true, not_false_eq_true, eq_self, if_true, if_false, not_or, not_and, Nat.not_lt, Nat.not_le, io_lt, io_le, io_eq, io_neg1, io_neg1', neg1_lt, io_le_neg1, io_lt_neg1, io_add, io_mul, io_pred, io_modE, natMod, io_sub, io_div, ix_io, gI_sI, gI_sA, gI_sL, gI_sJ, gI_sR, gI_sQ, gI_sD, gI_sN, gI_sz, gA_sI, gA_sA, gA_sL, gA_sJ, gA_sR, gA_sQ, gA_sD, gA_sN, gA_sz, gL_sI, gL_sA, gL_sL, gL_sJ, gL_sR, gL_sQ, gL_sD, gL_sN, gL_sz, gJ_sI, gJ_sA, gJ_sL, gJ_sJ, gJ_sR, gJ_sQ, gJ_sD, gJ_sN, gJ_sz, gR_sI, gR_sA, gR_sL, gR_sJ, gR_sR, gR_sQ, gR_sD, gR_sN, gR_sz, gQ_sI, gQ_sA, gQ_sL, gQ_sJ, gQ_sR, gQ_sQ, gQ_sD, gQ_sN, gQ_sz, gD_sI, gD_sA, gD_sL, gD_sJ, gD_sR, gD_sQ, gD_sD, gD_sN, gD_sz, sz_sI, sz_sA, sz_sL, sz_sJ, sz_sR, sz_sQ, sz_sD, sz_sN, sz_sz, e1, Nat.le_refl, Nat.sub_self, fup]
  | succ k ih =>
    intro m i hi hm
    obtain ⟨m, rfl⟩ : ∃ m', m = m' + 1 := ⟨m - 1, by omega⟩
    have h1 : ¬ n ≤ i := by omega
    have h3 := ih m (i + 1) (by omega) (by omega)
    have hs : n - i = (n - (i + 1)) + 1 := by omega
    have hm8 : (q + i) % n < n := Nat.mod_lt _ (by omega)
    have ho := P_isOff_eq (F := F) R (show (q + i) % n < 8 by omega) hj
    rw [hs, fup]
    rcases off_bit R (show (q + i) % n < 8 by omega) hj with h5 | h5
    · rw [if_pos (by simp [hop, h5])]
      simp (disch := omega) only [f_Rota_holderToBe_b37, Option.bind_some, Nat.reduceEqDiff, Nat.add_zero, Nat.zero_add, Nat.reduceLT, Nat.reduceLeDiff, Nat.reduceAdd, Nat.reduceSub, Nat.reduceMul, Nat.reduceDiv, Nat.lt_irrefl, Nat.not_lt_zero, Nat.zero_le, Nat.one_ne_zero, Nat.succ_ne_zero,  lt_def, i32_lit, reduceIte, P_isIn_eq, M_isIn_eq, M_goes_eq, or_false, false_or, or_true, true_or, and_true, true_and, and_false, false_and, not_true, not_false_eq_true, eq_self, if_true, if_false, not_or, not_and, Nat.not_lt, Nat.not_le, io_lt, io_le, io_eq, io_neg1, io_neg1', neg1_lt, io_le_neg1, io_lt_neg1, io_add, io_mul, io_pred, io_modE, natMod, io_sub, io_div, ix_io, gI_sI, gI_sA, gI_sL, gI_sJ, gI_sR, gI_sQ, gI_sD, gI_sN, gI_sz, gA_sI, gA_sA, gA_sL, gA_sJ, gA_sR, gA_sQ, gA_sD, gA_sN, gA_sz, gL_sI, gL_sA, gL_sL, gL_sJ, gL_sR, gL_sQ, gL_sD, gL_sN, gL_sz, gJ_sI, gJ_sA, gJ_sL, gJ_sJ, gJ_sR, gJ_sQ, gJ_sD, gJ_sN, gJ_sz, gR_sI, gR_sA, gR_sL, gR_sJ, gR_sR, gR_sQ, gR_sD, gR_sN, gR_sz, gQ_sI, gQ_sA, gQ_sL, gQ_sJ, gQ_sR, gQ_sQ, gQ_sD, gQ_sN, gQ_sz, gD_sI, gD_sA, gD_sL, gD_sJ, gD_sR, gD_sQ, gD_sD, gD_sN, gD_sz, sz_sI, sz_sA, sz_sL, sz_sJ, sz_sR, sz_sQ, sz_sD, sz_sN, sz_sz, e1, h1, hn0, ho, h5]
    · rw [if_neg (by simp (disch := omega) only [hop, h5, Option.bind_some, Nat.reduceEqDiff, Nat.add_zero, Nat.zero_add, Nat.reduceLT, Nat.reduceLeDiff, Nat.reduceAdd, Nat.reduceSub, Nat.reduceMul, Nat.reduceDiv, Nat.lt_irrefl, Nat.not_lt_zero, Nat.zero_le, Nat.one_ne_zero, Nat.succ_ne_zero,  lt_def, i32_lit, reduceIte, P_isIn_eq, M_isIn_eq, M_goes_eq, or_false, false_or, or_true, true_or, and_true, true_and, and_false, false_and, not_true, not_false_eq_true, eq_self, if_true, if_false, not_or, not_and, Nat.not_lt, Nat.not_le, io_lt, io_le, io_eq, io_neg1, io_neg1', neg1_lt, io_le_neg1, io_lt_neg1, io_add, io_mul, io_pred, io_modE, natMod, io_sub, io_div, ix_io, gI_sI, gI_sA, gI_sL, gI_sJ, gI_sR, gI_sQ, gI_sD, gI_sN, gI_sz, gA_sI, gA_sA, gA_sL, gA_sJ, gA_sR, gA_sQ, gA_sD, gA_sN, gA_sz, gL_sI, gL_sA, gL_sL, gL_sJ, gL_sR, gL_sQ, gL_sD, gL_sN, gL_sz, gJ_sI, gJ_sA, gJ_sL, gJ_sJ, gJ_sR, gJ_sQ, gJ_sD, gJ_sN, gJ_sz, gR_sI, gR_sA, gR_sL, gR_sJ, gR_sR, gR_sQ, gR_sD, gR_sN, gR_sz, gQ_sI, gQ_sA, gQ_sL, gQ_sJ, gQ_sR, gQ_sQ, gQ_sD, gQ_sN, gQ_sz, gD_sI, gD_sA, gD_sL, gD_sJ, gD_sR, gD_sQ, gD_sD, gD_sN, gD_sz, sz_sI, sz_sA, sz_sL, sz_sJ, sz_sR, sz_sQ, sz_sD, sz_sN, sz_sz, decide_false, Bool.false_eq_true])]
      simp (disch := omega) only [f_Rota_holderToBe_b37, Option.bind_some, Nat.reduceEqDiff, Nat.add_zero, Nat.zero_add, Nat.reduceLT, Nat.reduceLeDiff, Nat.reduceAdd, Nat.reduceSub, Nat.reduceMul, Nat.reduceDiv, Nat.lt_irrefl, Nat.not_lt_zero, Nat.zero_le, Nat.one_ne_zero, Nat.succ_ne_zero,  lt_def, i32_lit, reduceIte, P_isIn_eq, M_isIn_eq, M_goes_eq, or_false, false_or, or_true, true_or, and_true, true_and, and_false, false_and, not_true, not_false_eq_true, eq_self, if_true, if_false, not_or, not_and, Nat.not_lt, Nat.not_le, io_lt, io_le, io_eq, io_neg1, io_neg1', neg1_lt, io_le_neg1, io_lt_neg1, io_add, io_mul, io_pred, io_modE, natMod, io_sub, io_div, ix_io, gI_sI, gI_sA, gI_sL, gI_sJ, gI_sR, gI_sQ, gI_sD, gI_sN, gI_sz, gA_sI, gA_sA, gA_sL, gA_sJ, gA_sR, gA_sQ, gA_sD, gA_sN, gA_sz, gL_sI, gL_sA, gL_sL, gL_sJ, gL_sR, gL_sQ, gL_sD, gL_sN, gL_sz, gJ_sI, gJ_sA, gJ_sL, gJ_sJ, gJ_sR, gJ_sQ, gJ_sD, gJ_sN, gJ_sz, gR_sI, gR_sA, gR_sL, gR_sJ, gR_sR, gR_sQ, gR_sD, gR_sN, gR_sz, gQ_sI, gQ_sA, gQ_sL, gQ_sJ, gQ_sR, gQ_sQ, gQ_sD, gQ_sN, gQ_sz, gD_sI, gD_sA, gD_sL, gD_sJ, gD_sR, gD_sQ, gD_sD, gD_sN, gD_sz, sz_sI, sz_sA, sz_sL, sz_sJ, sz_sR, sz_sQ, sz_sD, sz_sN, sz_sz, e1, h1, hn0, ho, h5]
      exact h3
theorem hop0 {s : St} {n j q : Nat} (hq : q < n) : hop s n j q 0 = decide (gA s 56 (126 * q + j) = io 0) := by
  unfold hop
  rw [Nat.add_zero, Nat.mod_eq_of_lt hq]
theorem P_hold_eq {F h n d : Nat} (hF : 5000 ≤ F) {s : St} (P : PE s n) (R : RO s h n) (Q : DB s n d) {j : Nat} (hj : j < 126) : f_Rota_holderToBe F s (io j) = some (hold s n d j, s) := by
  have hd := Q.1
  have hn := P.1
  have e1 := P.2.1
  have hp := P_debtPaid_eq (F := F) hF P R Q hj
  have h4 : ∀ x : Int32, x = -io 1 → ((if x < io 0 ∨ io 4000 - io 1 < x then io 0 else io 1) = io 0) := fun x hx => by subst hx; decide
  have h4' := h4 (-io 1) rfl
  by_cases h0 : n = 0
  · subst h0
    have e : plan s 0 j = -io 1 := by unfold plan; rw [if_pos rfl]
    have ep : paidI s 0 d j = -io 1 := by unfold paidI; rw [if_pos rfl]
    have eh : hold s 0 d j = -io 1 := by unfold hold; rw [if_pos rfl]
    obtain ⟨F', rfl⟩ : ∃ m, F = m + 1 := ⟨F - 1, by omega⟩
    rw [eh]
    simp (disch := omega) only [f_Rota_holderToBe, hp, ep, Option.bind_some, i32_lit, P_isIn_eq, h4', if_true, P_planned_eq P R hj, e, f_Rota_holderToBe_b37, e1, io_le, Nat.le_refl]
  · obtain ⟨q, hq, e⟩ := plan_some R hj h0
    have cq : cl (io q) = q := cl_io (by omega)
    have hl := P_hold_loop (F := F) P R h0 hq hj n F 0 (by omega) (by omega)
    have hs : n = (n - 1) + 1 := by omega
    have hfu : ∀ p v, fup p v 0 n = if p 0 then v 0 else fup p v 1 (n - 1) := fun p v => by conv => lhs; rw [hs]; unfold fup
    rw [Nat.sub_zero, hfu] at hl
    have hq0 : (q + 0) % n = q := by rw [Nat.add_zero]; exact Nat.mod_eq_of_lt hq
    unfold hold
    rw [if_neg h0, e, cq]
    rcases off_bit R (show q < 8 by omega) hj with h5 | h5
    · rw [if_pos h5]
      rw [hop0 hq, h5, if_pos (by decide), hq0] at hl
      rcases paid_or (s := s) (n := n) (d := d) (j := j) with ep | ⟨i, hi, ep⟩
      · rw [if_pos ep]
        simp (disch := omega) only [f_Rota_holderToBe, hp, ep, Option.bind_some, i32_lit, P_isIn_eq, h4', if_true, P_planned_eq P R hj, e]
        exact hl
      · have ci : cl (io i) = i := cl_io (by omega)
        have h6 : ¬ 3999 < i := by omega
        rw [ep, if_neg (by rw [io_neg1 (by omega)]; exact id), ci]
        simp (disch := omega) only [f_Rota_holderToBe, hp, ep, Option.bind_some, Nat.reduceEqDiff, Nat.add_zero, Nat.zero_add, Nat.reduceLT, Nat.reduceLeDiff, Nat.reduceAdd, Nat.reduceSub, Nat.reduceMul, Nat.reduceDiv, Nat.lt_irrefl, Nat.not_lt_zero, Nat.zero_le, Nat.one_ne_zero, Nat.succ_ne_zero,  lt_def, i32_lit, reduceIte, P_isIn_eq, M_isIn_eq, M_goes_eq, or_false, false_or, or_true, true_or, and_true, true_and, and_false, false_and, not_true, not_false_eq_true, eq_self, if_true, if_false, not_or, not_and, Nat.not_lt, Nat.not_le, io_lt, io_le, io_eq, io_neg1, io_neg1', neg1_lt, io_le_neg1, io_lt_neg1, io_add, io_mul, io_pred, io_modE, natMod, io_sub, io_div, ix_io, gI_sI, gI_sA, gI_sL, gI_sJ, gI_sR, gI_sQ, gI_sD, gI_sN, gI_sz, gA_sI, gA_sA, gA_sL, gA_sJ, gA_sR, gA_sQ, gA_sD, gA_sN, gA_sz, gL_sI, gL_sA, gL_sL, gL_sJ, gL_sR, gL_sQ, gL_sD, gL_sN, gL_sz, gJ_sI, gJ_sA, gJ_sL, gJ_sJ, gJ_sR, gJ_sQ, gJ_sD, gJ_sN, gJ_sz, gR_sI, gR_sA, gR_sL, gR_sJ, gR_sR, gR_sQ, gR_sD, gR_sN, gR_sz, gQ_sI, gQ_sA, gQ_sL, gQ_sJ, gQ_sR, gQ_sQ, gQ_sD, gQ_sN, gQ_sz, gD_sI, gD_sA, gD_sL, gD_sJ, gD_sR, gD_sQ, gD_sD, gD_sN, gD_sz, sz_sI, sz_sA, sz_sL, sz_sJ, sz_sR, sz_sQ, sz_sD, sz_sN, sz_sz, h6]
    · have ep : paidI s n d j = -io 1 := by
        unfold paidI
        rw [if_neg h0, e, cq]
        have : ¬ gA s 56 (126 * q + j) = io 0 := by rw [h5]; decide
        by_cases h1 : j % 3 = 0 <;> simp only [h1, this, reduceIte]
      rw [if_neg (by rw [h5]; decide)]
      rw [hop0 hq, h5, if_neg (by decide)] at hl
      simp (disch := omega) only [f_Rota_holderToBe, hp, ep, Option.bind_some, i32_lit, P_isIn_eq, h4', if_true, P_planned_eq P R hj, e]
      exact hl
/-! .. by the model -/
theorem M_debt_loop {F h n d : Nat} {s : St} (P : PE s n) (R : RO s h n) (Q : DB s n d) {j q : Nat} (hq : q < n) (hj : j < 126) (h3 : j % 3 = 0) : ∀ (k m : Nat), k ≤ d → k < m → ∀ x, x = fup (pd s j q) io k (d - k) → f_M_holderOf_b85 F m (sI s 2550 x) (io j) (io q) (dn k) = f_M_holderOf_b144 F (sI s 2550 (fup (pd s j q) io 0 d)) (io q) := by
  have hd := Q.1
  have hn := P.1
  intro k
  induction k with
  | zero =>
    intro m hk hm x hx
    obtain ⟨m, rfl⟩ : ∃ m', m = m' + 1 := ⟨m - 1, by omega⟩
    rw [hx]
    have h1 : dn 0 < io 0 := by decide
    simp (disch := omega) only [f_M_holderOf_b85, i32_lit, h1, if_true, Nat.sub_zero]
  | succ k ih =>
    intro m hk hm x hx
    obtain ⟨m, rfl⟩ : ∃ m', m = m' + 1 := ⟨m - 1, by omega⟩
    have hs : d - k = (d - (k + 1)) + 1 := by omega
    obtain ⟨a, b, ha, hb, f1, f2, f3⟩ := Q.2.2.2 k (by omega)
    have f3' : gA (sI s 2550 x) 69 k = io (8 * a + b) := f3
    have hx2 : gI (sI s 2550 x) 2550 = x := rfl
    have m1 : (8 * a + b) % 8 = b := by omega
    have m2 : (8 * a + b) / 8 = a := by omega
    have m3 : 8 * a + b - a * 8 = b := by omega
    have ca : cl (io a) = a := cl_io (by omega)
    have fr : Fr [2550] [] s (sI s 2550 x) := Fr.rf.I (by decide)
    have hN := M_night_eq (F := F) (s := sI s 2550 x) (j := j) (by omega)
    rw [if_pos h3] at hN
    rw [dn_succ]
    by_cases h4 : b = q
    · subst h4
      have ho := M_isOff_eq (F := F) (R.fr fr) (show a < 8 by omega) hj
      have ho' : gA (sI s 2550 x) 56 = gA s 56 := rfl
      rw [ho'] at ho
      rcases off_bit R (show a < 8 by omega) hj with h5 | h5
      · have e := ih m (by omega) (by omega) (io k) (by
          rw [hs, fup, if_pos (by simp [pd, f2, f1, ca, h5])])
        simp (disch := omega) only [f_M_holderOf_b85, Option.bind_some, Nat.reduceEqDiff, Nat.add_zero, Nat.zero_add, Nat.reduceLT, Nat.reduceLeDiff, Nat.reduceAdd, Nat.reduceSub, Nat.reduceMul, Nat.reduceDiv, Nat.lt_irrefl, Nat.not_lt_zero, Nat.zero_le, Nat.one_ne_zero, Nat.succ_ne_zero,  lt_def, i32_lit, reduceIte, P_isIn_eq, M_isIn_eq, M_goes_eq, or_false, false_or, or_true, true_or, and_true, true_and, and_false, false_and, not_true, not_false_eq_true, eq_self, if_true, if_false, not_or, not_and, Nat.not_lt, Nat.not_le, io_lt, io_le, io_eq, io_neg1, io_neg1', neg1_lt, io_le_neg1, io_lt_neg1, io_add, io_mul, io_pred, io_modE, natMod, io_sub, io_div, ix_io, hN, f3', m1, m2, m3, ho, h5, sI_sI, dn_pred]
        exact e
      · have e := ih m (by omega) (by omega) x (by
          rw [hs, fup, if_neg (by simp (disch := omega) only [pd, f2, f1, ca, h5, Option.bind_some, Nat.reduceEqDiff, Nat.add_zero, Nat.zero_add, Nat.reduceLT, Nat.reduceLeDiff, Nat.reduceAdd, Nat.reduceSub, Nat.reduceMul, Nat.reduceDiv, Nat.lt_irrefl, Nat.not_lt_zero, Nat.zero_le, Nat.one_ne_zero, Nat.succ_ne_zero,  lt_def, i32_lit, reduceIte, P_isIn_eq, M_isIn_eq, M_goes_eq, or_false, false_or, or_true, true_or, and_true, true_and, and_false, false_and, not_true, not_false_eq_true, eq_self, if_true, if_false, not_or, not_and, Nat.not_lt, Nat.not_le, io_lt, io_le, io_eq, io_neg1, io_neg1', neg1_lt, io_le_neg1, io_lt_neg1, io_add, io_mul, io_pred, io_modE, natMod, io_sub, io_div, ix_io, gI_sI, gI_sA, gI_sL, gI_sJ, gI_sR, gI_sQ, gI_sD, gI_sN, gI_sz, gA_sI, gA_sA, gA_sL, gA_sJ, gA_sR, gA_sQ, gA_sD, gA_sN, gA_sz, gL_sI, gL_sA, gL_sL, gL_sJ, gL_sR, gL_sQ, gL_sD, gL_sN, gL_sz, gJ_sI, gJ_sA, gJ_sL, gJ_sJ, gJ_sR, gJ_sQ, gJ_sD, gJ_sN, gJ_sz, gR_sI, gR_sA, gR_sL, gR_sJ, gR_sR, gR_sQ, gR_sD, gR_sN, gR_sz, gQ_sI, gQ_sA, gQ_sL, gQ_sJ, gQ_sR, gQ_sQ, gQ_sD, gQ_sN, gQ_sz, gD_sI, gD_sA, gD_sL, gD_sJ, gD_sR, gD_sQ, gD_sD, gD_sN, gD_sz, sz_sI, sz_sA, sz_sL, sz_sJ, sz_sR, sz_sQ, sz_sD, sz_sN, sz_sz, decide_false, Bool.false_eq_true])]
          exact hx)
        simp (disch := omega) only [f_M_holderOf_b85, Option.bind_some, Nat.reduceEqDiff, Nat.add_zero, Nat.zero_add, Nat.reduceLT, Nat.reduceLeDiff, Nat.reduceAdd, Nat.reduceSub, Nat.reduceMul, Nat.reduceDiv, Nat.lt_irrefl, Nat.not_lt_zero, Nat.zero_le, Nat.one_ne_zero, Nat.succ_ne_zero,  lt_def, i32_lit, reduceIte, P_isIn_eq, M_isIn_eq, M_goes_eq, or_false, false_or, or_true, true_or, and_true, true_and, and_false, false_and, not_true, not_false_eq_true, eq_self, if_true, if_false, not_or, not_and, Nat.not_lt, Nat.not_le, io_lt, io_le, io_eq, io_neg1, io_neg1', neg1_lt, io_le_neg1, io_lt_neg1, io_add, io_mul, io_pred, io_modE, natMod, io_sub, io_div, ix_io, hN, f3', m1, m2, m3, ho, h5, sI_sI, dn_pred, hx2]
        exact e
    · have e := ih m (by omega) (by omega) x (by
        rw [hs, fup, if_neg (by simp (disch := omega) only [pd, f2, io_eq, h4, Option.bind_some, Nat.reduceEqDiff, Nat.add_zero, Nat.zero_add, Nat.reduceLT, Nat.reduceLeDiff, Nat.reduceAdd, Nat.reduceSub, Nat.reduceMul, Nat.reduceDiv, Nat.lt_irrefl, Nat.not_lt_zero, Nat.zero_le, Nat.one_ne_zero, Nat.succ_ne_zero,  lt_def, i32_lit, reduceIte, P_isIn_eq, M_isIn_eq, M_goes_eq, or_false, false_or, or_true, true_or, and_true, true_and, and_false, false_and, not_true, not_false_eq_true, eq_self, if_true, if_false, not_or, not_and, Nat.not_lt, Nat.not_le, decide_false, Bool.false_eq_true])]
        exact hx)
      simp (disch := omega) only [f_M_holderOf_b85, Option.bind_some, Nat.reduceEqDiff, Nat.add_zero, Nat.zero_add, Nat.reduceLT, Nat.reduceLeDiff, Nat.reduceAdd, Nat.reduceSub, Nat.reduceMul, Nat.reduceDiv, Nat.lt_irrefl, Nat.not_lt_zero, Nat.zero_le, Nat.one_ne_zero, Nat.succ_ne_zero,  lt_def, i32_lit, reduceIte, P_isIn_eq, M_isIn_eq, M_goes_eq, or_false, false_or, or_true, true_or, and_true, true_and, and_false, false_and, not_true, not_false_eq_true, eq_self, if_true, if_false, not_or, not_and, Nat.not_lt, Nat.not_le, io_lt, io_le, io_eq, io_neg1, io_neg1', neg1_lt, io_le_neg1, io_lt_neg1, io_add, io_mul, io_pred, io_modE, natMod, io_sub, io_div, ix_io, hN, f3', m1, m2, m3, h4, sI_sI, dn_pred, hx2]
      exact e
theorem M_hold_loop {F h n : Nat} {s : St} (P : PE s n) (R : RO s h n) (hn0 : n ≠ 0) {j q : Nat} (hq : q < n) (hj : j < 126) : ∀ (k m : Nat), k < n → k < m → f_M_holderOf_b37 F m s (io j) (io q) (fup (hop s n j q) (fun k => io ((q + k) % n)) (k + 1) (n - 1 - k)) (io k) = some (fup (hop s n j q) (fun k => io ((q + k) % n)) 1 (n - 1), s) := by
  have hn := P.1
  have e1 := P.2.2
  intro k
  induction k with
  | zero =>
    intro m hk hm
    obtain ⟨m, rfl⟩ : ∃ m', m = m' + 1 := ⟨m - 1, by omega⟩
    simp (disch := omega) only [f_M_holderOf_b37, Option.bind_some, Nat.reduceEqDiff, Nat.add_zero, Nat.zero_add, Nat.reduceLT, Nat.reduceLeDiff, Nat.reduceAdd, Nat.reduceSub, Nat.reduceMul, Nat.reduceDiv, Nat.lt_irrefl, Nat.not_lt_zero, Nat.zero_le, Nat.one_ne_zero, Nat.succ_ne_zero,  lt_def, i32_lit, reduceIte, P_isIn_eq, M_isIn_eq, M_goes_eq, or_false, false_or, or_true, true_or, and_true, true_and, and_false, false_and, not_true, not_false_eq_true, eq_self, if_true, if_false, not_or, not_and, Nat.not_lt, Nat.not_le, io_lt, io_le, io_eq, io_neg1, io_neg1', neg1_lt, io_le_neg1, io_lt_neg1, io_add, io_mul, io_pred, io_modE, natMod, io_sub, io_div, ix_io, gI_sI, gI_sA, gI_sL, gI_sJ, gI_sR, gI_sQ, gI_sD, gI_sN, gI_sz, gA_sI, gA_sA, gA_sL, gA_sJ, gA_sR, gA_sQ, gA_sD, gA_sN, gA_sz, gL_sI, gL_sA, gL_sL, gL_sJ, gL_sR, gL_sQ, gL_sD, gL_sN, gL_sz, gJ_sI, gJ_sA, gJ_sL, gJ_sJ, gJ_sR, gJ_sQ, gJ_sD, gJ_sN, gJ_sz, gR_sI, gR_sA, gR_sL, gR_sJ, gR_sR, gR_sQ, gR_sD, gR_sN, gR_sz, gQ_sI, gQ_sA, gQ_sL, gQ_sJ, gQ_sR, gQ_sQ, gQ_sD, gQ_sN, gQ_sz, gD_sI, gD_sA, gD_sL, gD_sJ, gD_sR, gD_sQ, gD_sD, gD_sN, gD_sz, sz_sI, sz_sA, sz_sL, sz_sJ, sz_sR, sz_sQ, sz_sD, sz_sN, sz_sz, Nat.le_refl, Nat.sub_zero]
  | succ k ih =>
    intro m hk hm
    obtain ⟨m, rfl⟩ : ∃ m', m = m' + 1 := ⟨m - 1, by omega⟩
    have h1 : ¬ k + 1 ≤ 0 := by omega
    have h3 := ih m (by omega) (by omega)
    have hs : n - 1 - k = (n - 1 - (k + 1)) + 1 := by omega
    have hm8 : (q + (k + 1)) % n < n := Nat.mod_lt _ (by omega)
    have ho := M_isOff_eq (F := F) R (show (q + (k + 1)) % n < 8 by omega) hj
    rw [hs, fup] at h3
    rcases off_bit R (show (q + (k + 1)) % n < 8 by omega) hj with h5 | h5
    · rw [if_pos (by simp [hop, h5])] at h3
      simp (disch := omega) only [f_M_holderOf_b37, Option.bind_some, Nat.reduceEqDiff, Nat.add_zero, Nat.zero_add, Nat.reduceLT, Nat.reduceLeDiff, Nat.reduceAdd, Nat.reduceSub, Nat.reduceMul, Nat.reduceDiv, Nat.lt_irrefl, Nat.not_lt_zero, Nat.zero_le, Nat.one_ne_zero, Nat.succ_ne_zero,  lt_def, i32_lit, reduceIte, P_isIn_eq, M_isIn_eq, M_goes_eq, or_false, false_or, or_true, true_or, and_true, true_and, and_false, false_and, not_true, not_false_eq_true, eq_self, if_true, if_false, not_or, not_and, Nat.not_lt, Nat.not_le, io_lt, io_le, io_eq, io_neg1, io_neg1', neg1_lt, io_le_neg1, io_lt_neg1, io_add, io_mul, io_pred, io_modE, natMod, io_sub, io_div, ix_io, gI_sI, gI_sA, gI_sL, gI_sJ, gI_sR, gI_sQ, gI_sD, gI_sN, gI_sz, gA_sI, gA_sA, gA_sL, gA_sJ, gA_sR, gA_sQ, gA_sD, gA_sN, gA_sz, gL_sI, gL_sA, gL_sL, gL_sJ, gL_sR, gL_sQ, gL_sD, gL_sN, gL_sz, gJ_sI, gJ_sA, gJ_sL, gJ_sJ, gJ_sR, gJ_sQ, gJ_sD, gJ_sN, gJ_sz, gR_sI, gR_sA, gR_sL, gR_sJ, gR_sR, gR_sQ, gR_sD, gR_sN, gR_sz, gQ_sI, gQ_sA, gQ_sL, gQ_sJ, gQ_sR, gQ_sQ, gQ_sD, gQ_sN, gQ_sz, gD_sI, gD_sA, gD_sL, gD_sJ, gD_sR, gD_sQ, gD_sD, gD_sN, gD_sz, sz_sI, sz_sA, sz_sL, sz_sJ, sz_sR, sz_sQ, sz_sD, sz_sN, sz_sz, e1, h1, hn0, ho, h5, Nat.add_sub_cancel]
      exact h3
    · rw [if_neg (by simp (disch := omega) only [hop, h5, Option.bind_some, Nat.reduceEqDiff, Nat.add_zero, Nat.zero_add, Nat.reduceLT, Nat.reduceLeDiff, Nat.reduceAdd, Nat.reduceSub, Nat.reduceMul, Nat.reduceDiv, Nat.lt_irrefl, Nat.not_lt_zero, Nat.zero_le, Nat.one_ne_zero, Nat.succ_ne_zero,  lt_def, i32_lit, reduceIte, P_isIn_eq, M_isIn_eq, M_goes_eq, or_false, false_or, or_true, true_or, and_true, true_and, and_false, false_and, not_true, not_false_eq_true, eq_self, if_true, if_false, not_or, not_and, Nat.not_lt, Nat.not_le, io_lt, io_le, io_eq, io_neg1, io_neg1', neg1_lt, io_le_neg1, io_lt_neg1, io_add, io_mul, io_pred, io_modE, natMod, io_sub, io_div, ix_io, gI_sI, gI_sA, gI_sL, gI_sJ, gI_sR, gI_sQ, gI_sD, gI_sN, gI_sz, gA_sI, gA_sA, gA_sL, gA_sJ, gA_sR, gA_sQ, gA_sD, gA_sN, gA_sz, gL_sI, gL_sA, gL_sL, gL_sJ, gL_sR, gL_sQ, gL_sD, gL_sN, gL_sz, gJ_sI, gJ_sA, gJ_sL, gJ_sJ, gJ_sR, gJ_sQ, gJ_sD, gJ_sN, gJ_sz, gR_sI, gR_sA, gR_sL, gR_sJ, gR_sR, gR_sQ, gR_sD, gR_sN, gR_sz, gQ_sI, gQ_sA, gQ_sL, gQ_sJ, gQ_sR, gQ_sQ, gQ_sD, gQ_sN, gQ_sz, gD_sI, gD_sA, gD_sL, gD_sJ, gD_sR, gD_sQ, gD_sD, gD_sN, gD_sz, sz_sI, sz_sA, sz_sL, sz_sJ, sz_sR, sz_sQ, sz_sD, sz_sN, sz_sz, decide_false, Bool.false_eq_true])] at h3
      simp (disch := omega) only [f_M_holderOf_b37, Option.bind_some, Nat.reduceEqDiff, Nat.add_zero, Nat.zero_add, Nat.reduceLT, Nat.reduceLeDiff, Nat.reduceAdd, Nat.reduceSub, Nat.reduceMul, Nat.reduceDiv, Nat.lt_irrefl, Nat.not_lt_zero, Nat.zero_le, Nat.one_ne_zero, Nat.succ_ne_zero,  lt_def, i32_lit, reduceIte, P_isIn_eq, M_isIn_eq, M_goes_eq, or_false, false_or, or_true, true_or, and_true, true_and, and_false, false_and, not_true, not_false_eq_true, eq_self, if_true, if_false, not_or, not_and, Nat.not_lt, Nat.not_le, io_lt, io_le, io_eq, io_neg1, io_neg1', neg1_lt, io_le_neg1, io_lt_neg1, io_add, io_mul, io_pred, io_modE, natMod, io_sub, io_div, ix_io, gI_sI, gI_sA, gI_sL, gI_sJ, gI_sR, gI_sQ, gI_sD, gI_sN, gI_sz, gA_sI, gA_sA, gA_sL, gA_sJ, gA_sR, gA_sQ, gA_sD, gA_sN, gA_sz, gL_sI, gL_sA, gL_sL, gL_sJ, gL_sR, gL_sQ, gL_sD, gL_sN, gL_sz, gJ_sI, gJ_sA, gJ_sL, gJ_sJ, gJ_sR, gJ_sQ, gJ_sD, gJ_sN, gJ_sz, gR_sI, gR_sA, gR_sL, gR_sJ, gR_sR, gR_sQ, gR_sD, gR_sN, gR_sz, gQ_sI, gQ_sA, gQ_sL, gQ_sJ, gQ_sR, gQ_sQ, gQ_sD, gQ_sN, gQ_sz, gD_sI, gD_sA, gD_sL, gD_sJ, gD_sR, gD_sQ, gD_sD, gD_sN, gD_sz, sz_sI, sz_sA, sz_sL, sz_sJ, sz_sR, sz_sQ, sz_sD, sz_sN, sz_sz, e1, h1, hn0, ho, h5, Nat.add_sub_cancel]
      exact h3
theorem M_hold_eq {F h n d : Nat} (hF : 5000 ≤ F) {s : St} (P : PE s n) (R : RO s h n) (Q : DB s n d) {j : Nat} (hj : j < 126) : f_M_holderOf F s (io j) = some (hold s n d j, sI s 2550 (paidI s n d j)) := by
  have hd := Q.1
  have hn := P.1
  have e1 := P.2.2
  have e2 := Q.2.2.1
  have fr : ∀ x, Fr [2550] [] s (sI s 2550 x) := fun x => Fr.rf.I (by decide)
  by_cases h0 : n = 0
  · subst h0
    have e : plan s 0 j = -io 1 := by unfold plan; rw [if_pos rfl]
    have ep : paidI s 0 d j = -io 1 := by unfold paidI; rw [if_pos rfl]
    have eh : hold s 0 d j = -io 1 := by unfold hold; rw [if_pos rfl]
    rw [ep, eh]
    simp (disch := omega) only [f_M_holderOf, Option.bind_some, Nat.reduceEqDiff, Nat.add_zero, Nat.zero_add, Nat.reduceLT, Nat.reduceLeDiff, Nat.reduceAdd, Nat.reduceSub, Nat.reduceMul, Nat.reduceDiv, Nat.lt_irrefl, Nat.not_lt_zero, Nat.zero_le, Nat.one_ne_zero, Nat.succ_ne_zero,  lt_def, i32_lit, reduceIte, P_isIn_eq, M_isIn_eq, M_goes_eq, or_false, false_or, or_true, true_or, and_true, true_and, and_false, false_and, not_true, not_false_eq_true, eq_self, if_true, if_false, not_or, not_and, Nat.not_lt, Nat.not_le, io_lt, io_le, io_eq, io_neg1, io_neg1', neg1_lt, io_le_neg1, io_lt_neg1, io_add, io_mul, io_pred, io_modE, natMod, io_sub, io_div, ix_io, gI_sI, gI_sA, gI_sL, gI_sJ, gI_sR, gI_sQ, gI_sD, gI_sN, gI_sz, gA_sI, gA_sA, gA_sL, gA_sJ, gA_sR, gA_sQ, gA_sD, gA_sN, gA_sz, gL_sI, gL_sA, gL_sL, gL_sJ, gL_sR, gL_sQ, gL_sD, gL_sN, gL_sz, gJ_sI, gJ_sA, gJ_sL, gJ_sJ, gJ_sR, gJ_sQ, gJ_sD, gJ_sN, gJ_sz, gR_sI, gR_sA, gR_sL, gR_sJ, gR_sR, gR_sQ, gR_sD, gR_sN, gR_sz, gQ_sI, gQ_sA, gQ_sL, gQ_sJ, gQ_sR, gQ_sQ, gQ_sD, gQ_sN, gQ_sz, gD_sI, gD_sA, gD_sL, gD_sJ, gD_sR, gD_sQ, gD_sD, gD_sN, gD_sz, sz_sI, sz_sA, sz_sL, sz_sJ, sz_sR, sz_sQ, sz_sD, sz_sN, sz_sz, M_planned_eq P R hj, e]
  · obtain ⟨q, hq, e⟩ := plan_some R hj h0
    have cq : cl (io q) = q := cl_io (by omega)
    have ho := M_isOff_eq (F := F) (R.fr (fr (-io 1))) (show q < 8 by omega) hj
    rw [show gA (sI s 2550 (-io 1)) 56 = gA s 56 from rfl] at ho
    rcases off_bit R (show q < 8 by omega) hj with h5 | h5
    · by_cases h3 : j % 3 = 0
      · have hl := M_debt_loop (F := F) P R Q hq hj h3 d F (Nat.le_refl _) (by omega) (-io 1) (by rw [Nat.sub_self]; rfl)
        have hpa : paidI s n d j = fup (pd s j q) io 0 d := by
          unfold paidI
          rw [if_neg h0, if_pos h3, e, cq, if_pos h5]
        have hb : f_M_holderOf_b144 F (sI s 2550 (fup (pd s j q) io 0 d)) (io q) = some (hold s n d j, sI s 2550 (paidI s n d j)) := by
          rw [← hpa]
          unfold hold
          rw [if_neg h0, e, cq, if_pos h5]
          rcases paid_or (s := s) (n := n) (d := d) (j := j) with ep | ⟨i, hi, ep⟩
          · rw [ep, if_pos rfl]
            simp (disch := omega) only [f_M_holderOf_b144, Option.bind_some, Nat.reduceEqDiff, Nat.add_zero, Nat.zero_add, Nat.reduceLT, Nat.reduceLeDiff, Nat.reduceAdd, Nat.reduceSub, Nat.reduceMul, Nat.reduceDiv, Nat.lt_irrefl, Nat.not_lt_zero, Nat.zero_le, Nat.one_ne_zero, Nat.succ_ne_zero,  lt_def, i32_lit, reduceIte, P_isIn_eq, M_isIn_eq, M_goes_eq, or_false, false_or, or_true, true_or, and_true, true_and, and_false, false_and, not_true, not_false_eq_true, eq_self, if_true, if_false, not_or, not_and, Nat.not_lt, Nat.not_le, io_lt, io_le, io_eq, io_neg1, io_neg1', neg1_lt, io_le_neg1, io_lt_neg1, io_add, io_mul, io_pred, io_modE, natMod, io_sub, io_div, ix_io, gI_sI, gI_sA, gI_sL, gI_sJ, gI_sR, gI_sQ, gI_sD, gI_sN, gI_sz, gA_sI, gA_sA, gA_sL, gA_sJ, gA_sR, gA_sQ, gA_sD, gA_sN, gA_sz, gL_sI, gL_sA, gL_sL, gL_sJ, gL_sR, gL_sQ, gL_sD, gL_sN, gL_sz, gJ_sI, gJ_sA, gJ_sL, gJ_sJ, gJ_sR, gJ_sQ, gJ_sD, gJ_sN, gJ_sz, gR_sI, gR_sA, gR_sL, gR_sJ, gR_sR, gR_sQ, gR_sD, gR_sN, gR_sz, gQ_sI, gQ_sA, gQ_sL, gQ_sJ, gQ_sR, gQ_sQ, gQ_sD, gQ_sN, gQ_sz, gD_sI, gD_sA, gD_sL, gD_sJ, gD_sR, gD_sQ, gD_sD, gD_sN, gD_sz, sz_sI, sz_sA, sz_sL, sz_sJ, sz_sR, sz_sQ, sz_sD, sz_sN, sz_sz]
          · obtain ⟨a, b, ha, hb, f1, f2, f3⟩ := Q.2.2.2 i hi
            have f3' : gA (sI s 2550 (io i)) 69 i = io (8 * a + b) := f3
            have m2 : (8 * a + b) / 8 = a := by omega
            have ci : cl (io i) = i := cl_io (by omega)
            rw [ep, if_neg (by rw [io_neg1 (by omega)]; exact id), ci, f1]
            simp (disch := omega) only [f_M_holderOf_b144, Option.bind_some, Nat.reduceEqDiff, Nat.add_zero, Nat.zero_add, Nat.reduceLT, Nat.reduceLeDiff, Nat.reduceAdd, Nat.reduceSub, Nat.reduceMul, Nat.reduceDiv, Nat.lt_irrefl, Nat.not_lt_zero, Nat.zero_le, Nat.one_ne_zero, Nat.succ_ne_zero,  lt_def, i32_lit, reduceIte, P_isIn_eq, M_isIn_eq, M_goes_eq, or_false, false_or, or_true, true_or, and_true, true_and, and_false, false_and, not_true, not_false_eq_true, eq_self, if_true, if_false, not_or, not_and, Nat.not_lt, Nat.not_le, io_lt, io_le, io_eq, io_neg1, io_neg1', neg1_lt, io_le_neg1, io_lt_neg1, io_add, io_mul, io_pred, io_modE, natMod, io_sub, io_div, ix_io, gI_sI, f3', m2]
        rw [hb] at hl
        simp (disch := omega) only [f_M_holderOf, Option.bind_some, Nat.reduceEqDiff, Nat.add_zero, Nat.zero_add, Nat.reduceLT, Nat.reduceLeDiff, Nat.reduceAdd, Nat.reduceSub, Nat.reduceMul, Nat.reduceDiv, Nat.lt_irrefl, Nat.not_lt_zero, Nat.zero_le, Nat.one_ne_zero, Nat.succ_ne_zero,  lt_def, i32_lit, reduceIte, P_isIn_eq, M_isIn_eq, M_goes_eq, or_false, false_or, or_true, true_or, and_true, true_and, and_false, false_and, not_true, not_false_eq_true, eq_self, if_true, if_false, not_or, not_and, Nat.not_lt, Nat.not_le, io_lt, io_le, io_eq, io_neg1, io_neg1', neg1_lt, io_le_neg1, io_lt_neg1, io_add, io_mul, io_pred, io_modE, natMod, io_sub, io_div, ix_io, gI_sI, gI_sA, gI_sL, gI_sJ, gI_sR, gI_sQ, gI_sD, gI_sN, gI_sz, gA_sI, gA_sA, gA_sL, gA_sJ, gA_sR, gA_sQ, gA_sD, gA_sN, gA_sz, gL_sI, gL_sA, gL_sL, gL_sJ, gL_sR, gL_sQ, gL_sD, gL_sN, gL_sz, gJ_sI, gJ_sA, gJ_sL, gJ_sJ, gJ_sR, gJ_sQ, gJ_sD, gJ_sN, gJ_sz, gR_sI, gR_sA, gR_sL, gR_sJ, gR_sR, gR_sQ, gR_sD, gR_sN, gR_sz, gQ_sI, gQ_sA, gQ_sL, gQ_sJ, gQ_sR, gQ_sQ, gQ_sD, gQ_sN, gQ_sz, gD_sI, gD_sA, gD_sL, gD_sJ, gD_sR, gD_sQ, gD_sD, gD_sN, gD_sz, sz_sI, sz_sA, sz_sL, sz_sJ, sz_sR, sz_sQ, sz_sD, sz_sN, sz_sz, M_planned_eq P R hj, e, ho, h5, e2, dn_sub]
        exact hl
      · have hpa : paidI s n d j = -io 1 := by
          unfold paidI
          rw [if_neg h0, if_neg h3]
        have hN := M_night_eq (F := F) (s := sI s 2550 (-io 1)) (j := j) (by omega)
        rw [if_neg h3] at hN
        unfold hold
        rw [if_neg h0, e, cq, if_pos h5, hpa, if_pos rfl]
        obtain ⟨F', rfl⟩ : ∃ m, F = m + 1 := ⟨F - 1, by omega⟩
        have hb : f_M_holderOf_b85 (F' + 1) (F' + 1) (sI s 2550 (-io 1)) (io j) (io q) (dn d) = some (io q, sI s 2550 (-io 1)) := by
          by_cases hd0 : d = 0
          · subst hd0
            have h1 : dn 0 < io 0 := by decide
            simp (disch := omega) only [f_M_holderOf_b85, f_M_holderOf_b144, i32_lit, h1, if_true, gI_sI]
          · have h1 : ¬ dn d < io 0 := by unfold dn; rw [if_neg hd0, io_lt (by omega) (by omega)]; omega
            simp (disch := omega) only [f_M_holderOf_b85, f_M_holderOf_b144, i32_lit, h1, if_false, hN, Option.bind_some, if_true, gI_sI]
        simp (disch := omega) only [f_M_holderOf, Option.bind_some, Nat.reduceEqDiff, Nat.add_zero, Nat.zero_add, Nat.reduceLT, Nat.reduceLeDiff, Nat.reduceAdd, Nat.reduceSub, Nat.reduceMul, Nat.reduceDiv, Nat.lt_irrefl, Nat.not_lt_zero, Nat.zero_le, Nat.one_ne_zero, Nat.succ_ne_zero,  lt_def, i32_lit, reduceIte, P_isIn_eq, M_isIn_eq, M_goes_eq, or_false, false_or, or_true, true_or, and_true, true_and, and_false, false_and, not_true, not_false_eq_true, eq_self, if_true, if_false, not_or, not_and, Nat.not_lt, Nat.not_le, io_lt, io_le, io_eq, io_neg1, io_neg1', neg1_lt, io_le_neg1, io_lt_neg1, io_add, io_mul, io_pred, io_modE, natMod, io_sub, io_div, ix_io, gI_sI, gI_sA, gI_sL, gI_sJ, gI_sR, gI_sQ, gI_sD, gI_sN, gI_sz, gA_sI, gA_sA, gA_sL, gA_sJ, gA_sR, gA_sQ, gA_sD, gA_sN, gA_sz, gL_sI, gL_sA, gL_sL, gL_sJ, gL_sR, gL_sQ, gL_sD, gL_sN, gL_sz, gJ_sI, gJ_sA, gJ_sL, gJ_sJ, gJ_sR, gJ_sQ, gJ_sD, gJ_sN, gJ_sz, gR_sI, gR_sA, gR_sL, gR_sJ, gR_sR, gR_sQ, gR_sD, gR_sN, gR_sz, gQ_sI, gQ_sA, gQ_sL, gQ_sJ, gQ_sR, gQ_sQ, gQ_sD, gQ_sN, gQ_sz, gD_sI, gD_sA, gD_sL, gD_sJ, gD_sR, gD_sQ, gD_sD, gD_sN, gD_sz, sz_sI, sz_sA, sz_sL, sz_sJ, sz_sR, sz_sQ, sz_sD, sz_sN, sz_sz, M_planned_eq P R hj, e, ho, h5, e2, dn_sub]
        exact hb
    · have hpa : paidI s n d j = -io 1 := by
        unfold paidI
        rw [if_neg h0, e, cq]
        have : ¬ gA s 56 (126 * q + j) = io 0 := by rw [h5]; decide
        by_cases h1 : j % 3 = 0 <;> simp only [h1, this, reduceIte]
      have hl := M_hold_loop (F := F) (P.fr (fr (-io 1))) (R.fr (fr (-io 1))) h0 hq hj (n - 1) F (by omega) (by omega)
      rw [Nat.sub_self, fup] at hl
      unfold hold
      rw [if_neg h0, e, cq, if_neg (by rw [h5]; decide), hpa]
      simp (disch := omega) only [f_M_holderOf, Option.bind_some, Nat.reduceEqDiff, Nat.add_zero, Nat.zero_add, Nat.reduceLT, Nat.reduceLeDiff, Nat.reduceAdd, Nat.reduceSub, Nat.reduceMul, Nat.reduceDiv, Nat.lt_irrefl, Nat.not_lt_zero, Nat.zero_le, Nat.one_ne_zero, Nat.succ_ne_zero,  lt_def, i32_lit, reduceIte, P_isIn_eq, M_isIn_eq, M_goes_eq, or_false, false_or, or_true, true_or, and_true, true_and, and_false, false_and, not_true, not_false_eq_true, eq_self, if_true, if_false, not_or, not_and, Nat.not_lt, Nat.not_le, io_lt, io_le, io_eq, io_neg1, io_neg1', neg1_lt, io_le_neg1, io_lt_neg1, io_add, io_mul, io_pred, io_modE, natMod, io_sub, io_div, ix_io, gI_sI, gI_sA, gI_sL, gI_sJ, gI_sR, gI_sQ, gI_sD, gI_sN, gI_sz, gA_sI, gA_sA, gA_sL, gA_sJ, gA_sR, gA_sQ, gA_sD, gA_sN, gA_sz, gL_sI, gL_sA, gL_sL, gL_sJ, gL_sR, gL_sQ, gL_sD, gL_sN, gL_sz, gJ_sI, gJ_sA, gJ_sL, gJ_sJ, gJ_sR, gJ_sQ, gJ_sD, gJ_sN, gJ_sz, gR_sI, gR_sA, gR_sL, gR_sJ, gR_sR, gR_sQ, gR_sD, gR_sN, gR_sz, gQ_sI, gQ_sA, gQ_sL, gQ_sJ, gQ_sR, gQ_sQ, gQ_sD, gQ_sN, gQ_sz, gD_sI, gD_sA, gD_sL, gD_sJ, gD_sR, gD_sQ, gD_sD, gD_sN, gD_sz, sz_sI, sz_sA, sz_sL, sz_sJ, sz_sR, sz_sQ, sz_sD, sz_sN, sz_sz, M_planned_eq P R hj, e, ho, h5, e1]
      exact hl
theorem op_next {F : Nat} (hF : 5000 ≤ F) {s : St} {h n d : Nat} (H : HH s h) (P : PE s n) (R : RO s h n) (Q : DB s n d) : ∃ r s1, f_P_next F s = some (r, s1) ∧ ∃ s2, f_M_next F s1 = some (r, s2) ∧ Fr [2550, 2551] [] s s2 := by
  have hh := H.1
  have e1 := (nowDiv H).1
  have e2 := (nowDiv H).2
  rw [i32_lit] at e1 e2
  by_cases hc : h / 8 + 1 < 126
  · have ht : toCome h (io (h / 8 + 1)) := ⟨_, rfl, by omega, hc⟩
    have h1 : ¬ 126 ≤ h / 8 + 1 := by omega
    have fr : Fr [2551] [] s (sI s 2551 (io 0)) := Fr.rf.I (by decide)
    refine ⟨hold s n d (h / 8 + 1), s, ?_, sI (sI s 2551 (io 0)) 2550 (paidI (sI s 2551 (io 0)) n d (h / 8 + 1)), ?_, (Fr.rf.I (by decide)).I (by decide)⟩
    · simp (disch := omega) only [f_P_next, Option.bind_some, Nat.reduceEqDiff, Nat.add_zero, Nat.zero_add, Nat.reduceLT, Nat.reduceLeDiff, Nat.reduceAdd, Nat.reduceSub, Nat.reduceMul, Nat.reduceDiv, Nat.lt_irrefl, Nat.not_lt_zero, Nat.zero_le, Nat.one_ne_zero, Nat.succ_ne_zero,  lt_def, i32_lit, reduceIte, P_isIn_eq, M_isIn_eq, M_goes_eq, or_false, false_or, or_true, true_or, and_true, true_and, and_false, false_and, not_true, not_false_eq_true, eq_self, if_true, if_false, not_or, not_and, Nat.not_lt, Nat.not_le, io_add, io_eq, e1, P_toCome_t H ht, P_hold_eq hF P R Q hc]
    · have hm := M_hold_eq (F := F) hF (P.fr fr) (R.fr fr) (Q.fr fr) hc
      rw [show hold (sI s 2551 (io 0)) n d (h / 8 + 1) = hold s n d (h / 8 + 1) from rfl] at hm
      simp (disch := omega) only [f_M_next, Option.bind_some, Nat.reduceEqDiff, Nat.add_zero, Nat.zero_add, Nat.reduceLT, Nat.reduceLeDiff, Nat.reduceAdd, Nat.reduceSub, Nat.reduceMul, Nat.reduceDiv, Nat.lt_irrefl, Nat.not_lt_zero, Nat.zero_le, Nat.one_ne_zero, Nat.succ_ne_zero,  lt_def, i32_lit, reduceIte, P_isIn_eq, M_isIn_eq, M_goes_eq, or_false, false_or, or_true, true_or, and_true, true_and, and_false, false_and, not_true, not_false_eq_true, eq_self, if_true, if_false, not_or, not_and, Nat.not_lt, Nat.not_le, io_lt, io_le, io_eq, io_neg1, io_neg1', neg1_lt, io_le_neg1, io_lt_neg1, io_add, io_mul, io_pred, io_modE, natMod, io_sub, io_div, ix_io, gI_sI, gI_sA, gI_sL, gI_sJ, gI_sR, gI_sQ, gI_sD, gI_sN, gI_sz, gA_sI, gA_sA, gA_sL, gA_sJ, gA_sR, gA_sQ, gA_sD, gA_sN, gA_sz, gL_sI, gL_sA, gL_sL, gL_sJ, gL_sR, gL_sQ, gL_sD, gL_sN, gL_sz, gJ_sI, gJ_sA, gJ_sL, gJ_sJ, gJ_sR, gJ_sQ, gJ_sD, gJ_sN, gJ_sz, gR_sI, gR_sA, gR_sL, gR_sJ, gR_sR, gR_sQ, gR_sD, gR_sN, gR_sz, gQ_sI, gQ_sA, gQ_sL, gQ_sJ, gQ_sR, gQ_sQ, gQ_sD, gQ_sN, gQ_sz, gD_sI, gD_sA, gD_sL, gD_sJ, gD_sR, gD_sQ, gD_sD, gD_sN, gD_sz, sz_sI, sz_sA, sz_sL, sz_sJ, sz_sR, sz_sQ, sz_sD, sz_sN, sz_sz, e2, h1, hm]
  · have h1 : 126 ≤ h / 8 + 1 := by omega
    have ht : ¬ toCome h (io (h / 8 + 1)) := fun ⟨j, e, a, b⟩ => by
      have := io_inj (by omega) (by omega) e
      omega
    refine ⟨-io 1, s, ?_, sI s 2551 (io 0), ?_, Fr.rf.I (by decide)⟩
    · simp (disch := omega) only [f_P_next, Option.bind_some, Nat.reduceEqDiff, Nat.add_zero, Nat.zero_add, Nat.reduceLT, Nat.reduceLeDiff, Nat.reduceAdd, Nat.reduceSub, Nat.reduceMul, Nat.reduceDiv, Nat.lt_irrefl, Nat.not_lt_zero, Nat.zero_le, Nat.one_ne_zero, Nat.succ_ne_zero,  lt_def, i32_lit, reduceIte, P_isIn_eq, M_isIn_eq, M_goes_eq, or_false, false_or, or_true, true_or, and_true, true_and, and_false, false_and, not_true, not_false_eq_true, eq_self, if_true, if_false, not_or, not_and, Nat.not_lt, Nat.not_le, io_add, e1, P_toCome_f H ht]
    · simp (disch := omega) only [f_M_next, Option.bind_some, Nat.reduceEqDiff, Nat.add_zero, Nat.zero_add, Nat.reduceLT, Nat.reduceLeDiff, Nat.reduceAdd, Nat.reduceSub, Nat.reduceMul, Nat.reduceDiv, Nat.lt_irrefl, Nat.not_lt_zero, Nat.zero_le, Nat.one_ne_zero, Nat.succ_ne_zero,  lt_def, i32_lit, reduceIte, P_isIn_eq, M_isIn_eq, M_goes_eq, or_false, false_or, or_true, true_or, and_true, true_and, and_false, false_and, not_true, not_false_eq_true, eq_self, if_true, if_false, not_or, not_and, Nat.not_lt, Nat.not_le, io_lt, io_le, io_eq, io_neg1, io_neg1', neg1_lt, io_le_neg1, io_lt_neg1, io_add, io_mul, io_pred, io_modE, natMod, io_sub, io_div, ix_io, gI_sI, gI_sA, gI_sL, gI_sJ, gI_sR, gI_sQ, gI_sD, gI_sN, gI_sz, gA_sI, gA_sA, gA_sL, gA_sJ, gA_sR, gA_sQ, gA_sD, gA_sN, gA_sz, gL_sI, gL_sA, gL_sL, gL_sJ, gL_sR, gL_sQ, gL_sD, gL_sN, gL_sz, gJ_sI, gJ_sA, gJ_sL, gJ_sJ, gJ_sR, gJ_sQ, gJ_sD, gJ_sN, gJ_sz, gR_sI, gR_sA, gR_sL, gR_sJ, gR_sR, gR_sQ, gR_sD, gR_sN, gR_sz, gQ_sI, gQ_sA, gQ_sL, gQ_sJ, gQ_sR, gQ_sQ, gQ_sD, gQ_sN, gQ_sz, gD_sI, gD_sA, gD_sL, gD_sJ, gD_sR, gD_sQ, gD_sD, gD_sN, gD_sz, sz_sI, sz_sA, sz_sL, sz_sJ, sz_sR, sz_sQ, sz_sD, sz_sN, sz_sz, e2, h1]
