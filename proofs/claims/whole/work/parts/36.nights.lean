/-! counting and looking for the first -/
def cnt (p : Nat → Bool) : Nat → Nat
  | 0 => 0
  | n + 1 => cnt p n + (if p n then 1 else 0)
theorem cnt_le (p : Nat → Bool) (n : Nat) : cnt p n ≤ n := by
  induction n with
  | zero => exact Nat.le_refl _
  | succ n ih => unfold cnt; split <;> omega
theorem cnt_ext {p q : Nat → Bool} {n : Nat} (h : ∀ i, i < n → p i = q i) : cnt p n = cnt q n := by
  induction n with
  | zero => rfl
  | succ n ih => unfold cnt; rw [ih (fun i hi => h i (by omega)), h n (by omega)]
theorem cnt_tail {p : Nat → Bool} {n m : Nat} (hnm : n ≤ m) (h : ∀ i, n ≤ i → i < m → p i = false) : cnt p m = cnt p n := by
  induction m with
  | zero => rw [show n = 0 by omega]
  | succ m ih =>
    by_cases e : n = m + 1
    · rw [e]
    · show cnt p m + (if p m then 1 else 0) = _
      rw [ih (by omega) (fun i h1 h2 => h i h1 (by omega)), h m (by omega) (by omega)]
      simp
/-- the first of m numbers from k on with p, by its value; -1: none -/
def fup (p : Nat → Bool) (v : Nat → Int32) : Nat → Nat → Int32
  | _, 0 => -io 1
  | k, m + 1 => if p k then v k else fup p v (k + 1) m
theorem fup_some {p : Nat → Bool} {v : Nat → Int32} : ∀ (m k : Nat), fup p v k m = -io 1 ∨ ∃ i, k ≤ i ∧ i < k + m ∧ p i = true ∧ fup p v k m = v i := by
  intro m
  induction m with
  | zero => intro k; exact Or.inl rfl
  | succ m ih =>
    intro k
    unfold fup
    by_cases h : p k = true
    · rw [if_pos h]; exact Or.inr ⟨k, by omega, by omega, h, rfl⟩
    · rw [if_neg h]
      rcases ih (k + 1) with e | ⟨i, h1, h2, h3, h4⟩
      · exact Or.inl e
      · exact Or.inr ⟨i, by omega, by omega, h3, h4⟩
theorem fup_ext {p q : Nat → Bool} {v : Nat → Int32} : ∀ (m k : Nat), (∀ i, k ≤ i → i < k + m → p i = q i) → fup p v k m = fup q v k m := by
  intro m
  induction m with
  | zero => intro k _; rfl
  | succ m ih =>
    intro k h
    unfold fup
    rw [h k (by omega) (by omega), ih (k + 1) (fun i h1 h2 => h i (by omega) (by omega))]
/-- a number that goes down: -1 at the end -/
def dn (k : Nat) : Int32 := if k = 0 then -io 1 else io (k - 1)
theorem dn_succ (k : Nat) : dn (k + 1) = io k := by unfold dn; rw [if_neg (by omega)]; rfl
theorem dn_pred (k : Nat) : io k + -io 1 = dn k := by
  unfold dn
  by_cases h : k = 0
  · subst h; decide
  · rw [if_neg h, io_pred (by omega)]
theorem dn_sub (k : Nat) : io k - io 1 = dn k := by rw [← dn_pred, Int32.sub_eq_add_neg]
theorem P_night_eq {F j : Nat} {s : St} (hj : j < 2147483648) : f_P_isNight F s (io j) = some (if j % 3 = 0 then io 1 else io 0, s) := by
  by_cases h : j % 3 = 0 <;> simp (disch := omega) only [f_P_isNight, Option.bind_some, Nat.reduceEqDiff, Nat.add_zero, Nat.zero_add, Nat.reduceLT, Nat.reduceLeDiff, Nat.reduceAdd, Nat.reduceSub, Nat.reduceMul, Nat.reduceDiv, Nat.lt_irrefl, Nat.not_lt_zero, Nat.zero_le, Nat.one_ne_zero, Nat.succ_ne_zero,  lt_def, i32_lit, reduceIte, P_isIn_eq, M_isIn_eq, M_goes_eq, or_false, false_or, or_true, true_or, and_true, true_and, and_false, false_and, not_true, not_false_eq_true, eq_self, if_true, if_false, not_or, not_and, Nat.not_lt, Nat.not_le, io_lt, io_le, io_eq, io_neg1, io_neg1', neg1_lt, io_le_neg1, io_lt_neg1, io_add, io_mul, io_pred, io_modE, natMod, io_sub, io_div, ix_io, gI_sI, gI_sA, gI_sL, gI_sJ, gI_sR, gI_sQ, gI_sD, gI_sN, gI_sz, gA_sI, gA_sA, gA_sL, gA_sJ, gA_sR, gA_sQ, gA_sD, gA_sN, gA_sz, gL_sI, gL_sA, gL_sL, gL_sJ, gL_sR, gL_sQ, gL_sD, gL_sN, gL_sz, gJ_sI, gJ_sA, gJ_sL, gJ_sJ, gJ_sR, gJ_sQ, gJ_sD, gJ_sN, gJ_sz, gR_sI, gR_sA, gR_sL, gR_sJ, gR_sR, gR_sQ, gR_sD, gR_sN, gR_sz, gQ_sI, gQ_sA, gQ_sL, gQ_sJ, gQ_sR, gQ_sQ, gQ_sD, gQ_sN, gQ_sz, gD_sI, gD_sA, gD_sL, gD_sJ, gD_sR, gD_sQ, gD_sD, gD_sN, gD_sz, sz_sI, sz_sA, sz_sL, sz_sJ, sz_sR, sz_sQ, sz_sD, sz_sN, sz_sz, h]
theorem M_night_eq {F j : Nat} {s : St} (hj : j < 2147483648) : f_M_isNight F s (io j) = some (if j % 3 = 0 then io 1 else io 0, s) := by
  by_cases h : j % 3 = 0 <;> simp (disch := omega) only [f_M_isNight, Option.bind_some, Nat.reduceEqDiff, Nat.add_zero, Nat.zero_add, Nat.reduceLT, Nat.reduceLeDiff, Nat.reduceAdd, Nat.reduceSub, Nat.reduceMul, Nat.reduceDiv, Nat.lt_irrefl, Nat.not_lt_zero, Nat.zero_le, Nat.one_ne_zero, Nat.succ_ne_zero,  lt_def, i32_lit, reduceIte, P_isIn_eq, M_isIn_eq, M_goes_eq, or_false, false_or, or_true, true_or, and_true, true_and, and_false, false_and, not_true, not_false_eq_true, eq_self, if_true, if_false, not_or, not_and, Nat.not_lt, Nat.not_le, io_lt, io_le, io_eq, io_neg1, io_neg1', neg1_lt, io_le_neg1, io_lt_neg1, io_add, io_mul, io_pred, io_modE, natMod, io_sub, io_div, ix_io, gI_sI, gI_sA, gI_sL, gI_sJ, gI_sR, gI_sQ, gI_sD, gI_sN, gI_sz, gA_sI, gA_sA, gA_sL, gA_sJ, gA_sR, gA_sQ, gA_sD, gA_sN, gA_sz, gL_sI, gL_sA, gL_sL, gL_sJ, gL_sR, gL_sQ, gL_sD, gL_sN, gL_sz, gJ_sI, gJ_sA, gJ_sL, gJ_sJ, gJ_sR, gJ_sQ, gJ_sD, gJ_sN, gJ_sz, gR_sI, gR_sA, gR_sL, gR_sJ, gR_sR, gR_sQ, gR_sD, gR_sN, gR_sz, gQ_sI, gQ_sA, gQ_sL, gQ_sJ, gQ_sR, gQ_sQ, gQ_sD, gQ_sN, gQ_sz, gD_sI, gD_sA, gD_sL, gD_sJ, gD_sR, gD_sQ, gD_sD, gD_sN, gD_sz, sz_sI, sz_sA, sz_sL, sz_sJ, sz_sR, sz_sQ, sz_sD, sz_sN, sz_sz, h]
/-! nights -/
theorem P_nights_loop {F : Nat} {s : St} {a : Int32} : ∀ (k n j : Nat), j + k = 126 → k < n → f_Rota_nightsOf_b4 F n s a (io (cnt (fun j => decide (j % 3 = 0 ∧ gA s 15 j = a)) j)) (io j) = some (io (cnt (fun j => decide (j % 3 = 0 ∧ gA s 15 j = a)) 126), s) := by
  intro k
  induction k with
  | zero =>
    intro n j hj hn
    obtain ⟨n, rfl⟩ : ∃ m, n = m + 1 := ⟨n - 1, by omega⟩
    have hj' : j = 126 := by omega
    subst hj'
    simp (disch := omega) only [f_Rota_nightsOf_b4, Option.bind_some, Nat.reduceEqDiff, Nat.add_zero, Nat.zero_add, Nat.reduceLT, Nat.reduceLeDiff, Nat.reduceAdd, Nat.reduceSub, Nat.reduceMul, Nat.reduceDiv, Nat.lt_irrefl, Nat.not_lt_zero, Nat.zero_le, Nat.one_ne_zero, Nat.succ_ne_zero,  lt_def, i32_lit, reduceIte, P_isIn_eq, M_isIn_eq, M_goes_eq, or_false, false_or, or_true, true_or, and_true, true_and, and_false, false_and, not_true, not_false_eq_true, eq_self, if_true, if_false, not_or, not_and, Nat.not_lt, Nat.not_le, io_lt, io_le, io_eq, io_neg1, io_neg1', neg1_lt, io_le_neg1, io_lt_neg1, io_add, io_mul, io_pred, io_modE, natMod, io_sub, io_div, ix_io, gI_sI, gI_sA, gI_sL, gI_sJ, gI_sR, gI_sQ, gI_sD, gI_sN, gI_sz, gA_sI, gA_sA, gA_sL, gA_sJ, gA_sR, gA_sQ, gA_sD, gA_sN, gA_sz, gL_sI, gL_sA, gL_sL, gL_sJ, gL_sR, gL_sQ, gL_sD, gL_sN, gL_sz, gJ_sI, gJ_sA, gJ_sL, gJ_sJ, gJ_sR, gJ_sQ, gJ_sD, gJ_sN, gJ_sz, gR_sI, gR_sA, gR_sL, gR_sJ, gR_sR, gR_sQ, gR_sD, gR_sN, gR_sz, gQ_sI, gQ_sA, gQ_sL, gQ_sJ, gQ_sR, gQ_sQ, gQ_sD, gQ_sN, gQ_sz, gD_sI, gD_sA, gD_sL, gD_sJ, gD_sR, gD_sQ, gD_sD, gD_sN, gD_sz, sz_sI, sz_sA, sz_sL, sz_sJ, sz_sR, sz_sQ, sz_sD, sz_sN, sz_sz, Nat.le_refl]
  | succ k ih =>
    intro n j hj hn
    obtain ⟨n, rfl⟩ : ∃ m, n = m + 1 := ⟨n - 1, by omega⟩
    have h1 : ¬ 126 ≤ j := by omega
    have h2 := ih n (j + 1) (by omega) (by omega)
    by_cases h3 : j % 3 = 0
    · by_cases h4 : gA s 15 j = a
      · rw [cnt, if_pos (by simp [h3, h4])] at h2
        simp (disch := omega) only [f_Rota_nightsOf_b4, Option.bind_some, Nat.reduceEqDiff, Nat.add_zero, Nat.zero_add, Nat.reduceLT, Nat.reduceLeDiff, Nat.reduceAdd, Nat.reduceSub, Nat.reduceMul, Nat.reduceDiv, Nat.lt_irrefl, Nat.not_lt_zero, Nat.zero_le, Nat.one_ne_zero, Nat.succ_ne_zero,  lt_def, i32_lit, reduceIte, P_isIn_eq, M_isIn_eq, M_goes_eq, or_false, false_or, or_true, true_or, and_true, true_and, and_false, false_and, not_true, not_false_eq_true, eq_self, if_true, if_false, not_or, not_and, Nat.not_lt, Nat.not_le, io_lt, io_le, io_eq, io_neg1, io_neg1', neg1_lt, io_le_neg1, io_lt_neg1, io_add, io_mul, io_pred, io_modE, natMod, io_sub, io_div, ix_io, gI_sI, gI_sA, gI_sL, gI_sJ, gI_sR, gI_sQ, gI_sD, gI_sN, gI_sz, gA_sI, gA_sA, gA_sL, gA_sJ, gA_sR, gA_sQ, gA_sD, gA_sN, gA_sz, gL_sI, gL_sA, gL_sL, gL_sJ, gL_sR, gL_sQ, gL_sD, gL_sN, gL_sz, gJ_sI, gJ_sA, gJ_sL, gJ_sJ, gJ_sR, gJ_sQ, gJ_sD, gJ_sN, gJ_sz, gR_sI, gR_sA, gR_sL, gR_sJ, gR_sR, gR_sQ, gR_sD, gR_sN, gR_sz, gQ_sI, gQ_sA, gQ_sL, gQ_sJ, gQ_sR, gQ_sQ, gQ_sD, gQ_sN, gQ_sz, gD_sI, gD_sA, gD_sL, gD_sJ, gD_sR, gD_sQ, gD_sD, gD_sN, gD_sz, sz_sI, sz_sA, sz_sL, sz_sJ, sz_sR, sz_sQ, sz_sD, sz_sN, sz_sz, h1, P_night_eq, h3, h4]
        exact h2
      · rw [cnt, if_neg (by simp [h4])] at h2
        simp (disch := omega) only [f_Rota_nightsOf_b4, Option.bind_some, Nat.reduceEqDiff, Nat.add_zero, Nat.zero_add, Nat.reduceLT, Nat.reduceLeDiff, Nat.reduceAdd, Nat.reduceSub, Nat.reduceMul, Nat.reduceDiv, Nat.lt_irrefl, Nat.not_lt_zero, Nat.zero_le, Nat.one_ne_zero, Nat.succ_ne_zero,  lt_def, i32_lit, reduceIte, P_isIn_eq, M_isIn_eq, M_goes_eq, or_false, false_or, or_true, true_or, and_true, true_and, and_false, false_and, not_true, not_false_eq_true, eq_self, if_true, if_false, not_or, not_and, Nat.not_lt, Nat.not_le, io_lt, io_le, io_eq, io_neg1, io_neg1', neg1_lt, io_le_neg1, io_lt_neg1, io_add, io_mul, io_pred, io_modE, natMod, io_sub, io_div, ix_io, gI_sI, gI_sA, gI_sL, gI_sJ, gI_sR, gI_sQ, gI_sD, gI_sN, gI_sz, gA_sI, gA_sA, gA_sL, gA_sJ, gA_sR, gA_sQ, gA_sD, gA_sN, gA_sz, gL_sI, gL_sA, gL_sL, gL_sJ, gL_sR, gL_sQ, gL_sD, gL_sN, gL_sz, gJ_sI, gJ_sA, gJ_sL, gJ_sJ, gJ_sR, gJ_sQ, gJ_sD, gJ_sN, gJ_sz, gR_sI, gR_sA, gR_sL, gR_sJ, gR_sR, gR_sQ, gR_sD, gR_sN, gR_sz, gQ_sI, gQ_sA, gQ_sL, gQ_sJ, gQ_sR, gQ_sQ, gQ_sD, gQ_sN, gQ_sz, gD_sI, gD_sA, gD_sL, gD_sJ, gD_sR, gD_sQ, gD_sD, gD_sN, gD_sz, sz_sI, sz_sA, sz_sL, sz_sJ, sz_sR, sz_sQ, sz_sD, sz_sN, sz_sz, h1, P_night_eq, h3, h4]
        exact h2
    · rw [cnt, if_neg (by simp [h3])] at h2
      simp (disch := omega) only [f_Rota_nightsOf_b4, Option.bind_some, Nat.reduceEqDiff, Nat.add_zero, Nat.zero_add, Nat.reduceLT, Nat.reduceLeDiff, Nat.reduceAdd, Nat.reduceSub, Nat.reduceMul, Nat.reduceDiv, Nat.lt_irrefl, Nat.not_lt_zero, Nat.zero_le, Nat.one_ne_zero, Nat.succ_ne_zero,  lt_def, i32_lit, reduceIte, P_isIn_eq, M_isIn_eq, M_goes_eq, or_false, false_or, or_true, true_or, and_true, true_and, and_false, false_and, not_true, not_false_eq_true, eq_self, if_true, if_false, not_or, not_and, Nat.not_lt, Nat.not_le, io_lt, io_le, io_eq, io_neg1, io_neg1', neg1_lt, io_le_neg1, io_lt_neg1, io_add, io_mul, io_pred, io_modE, natMod, io_sub, io_div, ix_io, gI_sI, gI_sA, gI_sL, gI_sJ, gI_sR, gI_sQ, gI_sD, gI_sN, gI_sz, gA_sI, gA_sA, gA_sL, gA_sJ, gA_sR, gA_sQ, gA_sD, gA_sN, gA_sz, gL_sI, gL_sA, gL_sL, gL_sJ, gL_sR, gL_sQ, gL_sD, gL_sN, gL_sz, gJ_sI, gJ_sA, gJ_sL, gJ_sJ, gJ_sR, gJ_sQ, gJ_sD, gJ_sN, gJ_sz, gR_sI, gR_sA, gR_sL, gR_sJ, gR_sR, gR_sQ, gR_sD, gR_sN, gR_sz, gQ_sI, gQ_sA, gQ_sL, gQ_sJ, gQ_sR, gQ_sQ, gQ_sD, gQ_sN, gQ_sz, gD_sI, gD_sA, gD_sL, gD_sJ, gD_sR, gD_sQ, gD_sD, gD_sN, gD_sz, sz_sI, sz_sA, sz_sL, sz_sJ, sz_sR, sz_sQ, sz_sD, sz_sN, sz_sz, h1, P_night_eq, h3]
      exact h2
theorem M_nights_loop {F h : Nat} {s : St} (H : HH s h) {a l3 : Int32} (hl : ¬ l3 = io 0) : ∀ (k n j : Nat), j + k = h / 8 + 1 → k < n → f_M_nights_b23 F n s a (io (cnt (fun j => decide (j % 3 = 0 ∧ gA s 58 j = a)) j)) l3 (io j) = some (io (cnt (fun j => decide (j % 3 = 0 ∧ gA s 58 j = a)) (h / 8 + 1)), s) := by
  have e2 := (nowDiv H).2
  have hh := H.1
  rw [i32_lit] at e2
  intro k
  induction k with
  | zero =>
    intro n j hj hn
    obtain ⟨n, rfl⟩ : ∃ m, n = m + 1 := ⟨n - 1, by omega⟩
    have hj' : j = h / 8 + 1 := by omega
    subst hj'
    have h1 : h / 8 < h / 8 + 1 := by omega
    simp (disch := omega) only [f_M_nights_b23, Option.bind_some, Nat.reduceEqDiff, Nat.add_zero, Nat.zero_add, Nat.reduceLT, Nat.reduceLeDiff, Nat.reduceAdd, Nat.reduceSub, Nat.reduceMul, Nat.reduceDiv, Nat.lt_irrefl, Nat.not_lt_zero, Nat.zero_le, Nat.one_ne_zero, Nat.succ_ne_zero,  lt_def, i32_lit, reduceIte, P_isIn_eq, M_isIn_eq, M_goes_eq, or_false, false_or, or_true, true_or, and_true, true_and, and_false, false_and, not_true, not_false_eq_true, eq_self, if_true, if_false, not_or, not_and, Nat.not_lt, Nat.not_le, io_lt, io_le, io_eq, io_neg1, io_neg1', neg1_lt, io_le_neg1, io_lt_neg1, io_add, io_mul, io_pred, io_modE, natMod, io_sub, io_div, ix_io, gI_sI, gI_sA, gI_sL, gI_sJ, gI_sR, gI_sQ, gI_sD, gI_sN, gI_sz, gA_sI, gA_sA, gA_sL, gA_sJ, gA_sR, gA_sQ, gA_sD, gA_sN, gA_sz, gL_sI, gL_sA, gL_sL, gL_sJ, gL_sR, gL_sQ, gL_sD, gL_sN, gL_sz, gJ_sI, gJ_sA, gJ_sL, gJ_sJ, gJ_sR, gJ_sQ, gJ_sD, gJ_sN, gJ_sz, gR_sI, gR_sA, gR_sL, gR_sJ, gR_sR, gR_sQ, gR_sD, gR_sN, gR_sz, gQ_sI, gQ_sA, gQ_sL, gQ_sJ, gQ_sR, gQ_sQ, gQ_sD, gQ_sN, gQ_sz, gD_sI, gD_sA, gD_sL, gD_sJ, gD_sR, gD_sQ, gD_sD, gD_sN, gD_sz, sz_sI, sz_sA, sz_sL, sz_sJ, sz_sR, sz_sQ, sz_sD, sz_sN, sz_sz, e2, h1]
  | succ k ih =>
    intro n j hj hn
    obtain ⟨n, rfl⟩ : ∃ m, n = m + 1 := ⟨n - 1, by omega⟩
    have h1 : ¬ h / 8 < j := by omega
    have h2 := ih n (j + 1) (by omega) (by omega)
    by_cases h3 : j % 3 = 0
    · by_cases h4 : gA s 58 j = a
      · rw [cnt, if_pos (by simp [h3, h4])] at h2
        simp (disch := omega) only [f_M_nights_b23, Option.bind_some, Nat.reduceEqDiff, Nat.add_zero, Nat.zero_add, Nat.reduceLT, Nat.reduceLeDiff, Nat.reduceAdd, Nat.reduceSub, Nat.reduceMul, Nat.reduceDiv, Nat.lt_irrefl, Nat.not_lt_zero, Nat.zero_le, Nat.one_ne_zero, Nat.succ_ne_zero,  lt_def, i32_lit, reduceIte, P_isIn_eq, M_isIn_eq, M_goes_eq, or_false, false_or, or_true, true_or, and_true, true_and, and_false, false_and, not_true, not_false_eq_true, eq_self, if_true, if_false, not_or, not_and, Nat.not_lt, Nat.not_le, io_lt, io_le, io_eq, io_neg1, io_neg1', neg1_lt, io_le_neg1, io_lt_neg1, io_add, io_mul, io_pred, io_modE, natMod, io_sub, io_div, ix_io, gI_sI, gI_sA, gI_sL, gI_sJ, gI_sR, gI_sQ, gI_sD, gI_sN, gI_sz, gA_sI, gA_sA, gA_sL, gA_sJ, gA_sR, gA_sQ, gA_sD, gA_sN, gA_sz, gL_sI, gL_sA, gL_sL, gL_sJ, gL_sR, gL_sQ, gL_sD, gL_sN, gL_sz, gJ_sI, gJ_sA, gJ_sL, gJ_sJ, gJ_sR, gJ_sQ, gJ_sD, gJ_sN, gJ_sz, gR_sI, gR_sA, gR_sL, gR_sJ, gR_sR, gR_sQ, gR_sD, gR_sN, gR_sz, gQ_sI, gQ_sA, gQ_sL, gQ_sJ, gQ_sR, gQ_sQ, gQ_sD, gQ_sN, gQ_sz, gD_sI, gD_sA, gD_sL, gD_sJ, gD_sR, gD_sQ, gD_sD, gD_sN, gD_sz, sz_sI, sz_sA, sz_sL, sz_sJ, sz_sR, sz_sQ, sz_sD, sz_sN, sz_sz, e2, h1, hl, M_night_eq, h3, h4]
        exact h2
      · rw [cnt, if_neg (by simp [h4])] at h2
        simp (disch := omega) only [f_M_nights_b23, Option.bind_some, Nat.reduceEqDiff, Nat.add_zero, Nat.zero_add, Nat.reduceLT, Nat.reduceLeDiff, Nat.reduceAdd, Nat.reduceSub, Nat.reduceMul, Nat.reduceDiv, Nat.lt_irrefl, Nat.not_lt_zero, Nat.zero_le, Nat.one_ne_zero, Nat.succ_ne_zero,  lt_def, i32_lit, reduceIte, P_isIn_eq, M_isIn_eq, M_goes_eq, or_false, false_or, or_true, true_or, and_true, true_and, and_false, false_and, not_true, not_false_eq_true, eq_self, if_true, if_false, not_or, not_and, Nat.not_lt, Nat.not_le, io_lt, io_le, io_eq, io_neg1, io_neg1', neg1_lt, io_le_neg1, io_lt_neg1, io_add, io_mul, io_pred, io_modE, natMod, io_sub, io_div, ix_io, gI_sI, gI_sA, gI_sL, gI_sJ, gI_sR, gI_sQ, gI_sD, gI_sN, gI_sz, gA_sI, gA_sA, gA_sL, gA_sJ, gA_sR, gA_sQ, gA_sD, gA_sN, gA_sz, gL_sI, gL_sA, gL_sL, gL_sJ, gL_sR, gL_sQ, gL_sD, gL_sN, gL_sz, gJ_sI, gJ_sA, gJ_sL, gJ_sJ, gJ_sR, gJ_sQ, gJ_sD, gJ_sN, gJ_sz, gR_sI, gR_sA, gR_sL, gR_sJ, gR_sR, gR_sQ, gR_sD, gR_sN, gR_sz, gQ_sI, gQ_sA, gQ_sL, gQ_sJ, gQ_sR, gQ_sQ, gQ_sD, gQ_sN, gQ_sz, gD_sI, gD_sA, gD_sL, gD_sJ, gD_sR, gD_sQ, gD_sD, gD_sN, gD_sz, sz_sI, sz_sA, sz_sL, sz_sJ, sz_sR, sz_sQ, sz_sD, sz_sN, sz_sz, e2, h1, hl, M_night_eq, h3, h4]
        exact h2
    · rw [cnt, if_neg (by simp [h3])] at h2
      simp (disch := omega) only [f_M_nights_b23, Option.bind_some, Nat.reduceEqDiff, Nat.add_zero, Nat.zero_add, Nat.reduceLT, Nat.reduceLeDiff, Nat.reduceAdd, Nat.reduceSub, Nat.reduceMul, Nat.reduceDiv, Nat.lt_irrefl, Nat.not_lt_zero, Nat.zero_le, Nat.one_ne_zero, Nat.succ_ne_zero,  lt_def, i32_lit, reduceIte, P_isIn_eq, M_isIn_eq, M_goes_eq, or_false, false_or, or_true, true_or, and_true, true_and, and_false, false_and, not_true, not_false_eq_true, eq_self, if_true, if_false, not_or, not_and, Nat.not_lt, Nat.not_le, io_lt, io_le, io_eq, io_neg1, io_neg1', neg1_lt, io_le_neg1, io_lt_neg1, io_add, io_mul, io_pred, io_modE, natMod, io_sub, io_div, ix_io, gI_sI, gI_sA, gI_sL, gI_sJ, gI_sR, gI_sQ, gI_sD, gI_sN, gI_sz, gA_sI, gA_sA, gA_sL, gA_sJ, gA_sR, gA_sQ, gA_sD, gA_sN, gA_sz, gL_sI, gL_sA, gL_sL, gL_sJ, gL_sR, gL_sQ, gL_sD, gL_sN, gL_sz, gJ_sI, gJ_sA, gJ_sL, gJ_sJ, gJ_sR, gJ_sQ, gJ_sD, gJ_sN, gJ_sz, gR_sI, gR_sA, gR_sL, gR_sJ, gR_sR, gR_sQ, gR_sD, gR_sN, gR_sz, gQ_sI, gQ_sA, gQ_sL, gQ_sJ, gQ_sR, gQ_sQ, gQ_sD, gQ_sN, gQ_sz, gD_sI, gD_sA, gD_sL, gD_sJ, gD_sR, gD_sQ, gD_sD, gD_sN, gD_sz, sz_sI, sz_sA, sz_sL, sz_sJ, sz_sR, sz_sQ, sz_sD, sz_sN, sz_sz, e2, h1, hl, M_night_eq, h3]
      exact h2
theorem op_nights {F : Nat} (hF : 5000 ≤ F) {s : St} {h n : Nat} (H : HH s h) (P : PE s n) (R : RO s h n) (a : Int32) : ∃ k s1, f_L_nights F s a = some (k, s1) ∧ ∀ N, sz s1 ≤ N → ∃ b s2, f_M_nights F (sz' s1 N) a = some (b, s2) ∧ gI s2 2551 = k ∧ (k = 0 → gJ s2 70 0 = b.toInt64) ∧ Fr [2551] [] s s2 := by
  have hz := szlt s
  have hh := H.1
  have hn := P.1
  by_cases hp : isP n a
  · obtain ⟨p, hp1, rfl⟩ := id hp
    have e1 := P_nights_loop (F := F) (s := s) (a := io p) 126 F 0 (by omega) (by omega)
    have ec : cnt (fun j => decide (j % 3 = 0 ∧ gA s 15 j = io p)) 126 = cnt (fun j => decide (j % 3 = 0 ∧ gA s 58 j = io p)) (h / 8 + 1) := by
      rw [cnt_tail (n := h / 8 + 1) (by omega) (fun i h1 h2 => by
        obtain ⟨-, -, -, r4, -, r6⟩ := R i h2
        rw [r4, r6 (by omega)]
        simp only [decide_eq_false_iff_not, not_and]
        intro _
        rw [io_neg1' (by omega)]
        exact id)]
      exact cnt_ext (fun i hi => by rw [(R i (by omega)).2.2.2.1])
    rw [ec] at e1
    generalize hc : cnt (fun j => decide (j % 3 = 0 ∧ gA s 58 j = io p)) (h / 8 + 1) = C at e1
    refine ⟨io 0, sJ s 70 0 (io C).toInt64, ?_, fun N hN => ⟨io C, sI (sz' (sJ s 70 0 (io C).toInt64) N) 2551 (io 0), ?_, rfl, fun _ => rfl, (((Fr.rf).J).Z hN).I (by decide)⟩⟩
    · simp (disch := omega) only [f_L_nights, f_P_nights, f_Rota_nightsOf, Option.bind_some, Nat.reduceEqDiff, Nat.add_zero, Nat.zero_add, Nat.reduceLT, Nat.reduceLeDiff, Nat.reduceAdd, Nat.reduceSub, Nat.reduceMul, Nat.reduceDiv, Nat.lt_irrefl, Nat.not_lt_zero, Nat.zero_le, Nat.one_ne_zero, Nat.succ_ne_zero,  lt_def, i32_lit, reduceIte, P_isIn_eq, M_isIn_eq, M_goes_eq, or_false, false_or, or_true, true_or, and_true, true_and, and_false, false_and, not_true, not_false_eq_true, eq_self, if_true, if_false, not_or, not_and, Nat.not_lt, Nat.not_le, io_lt, io_le, io_eq, io_neg1, io_neg1', neg1_lt, io_le_neg1, io_lt_neg1, io_add, io_mul, io_pred, io_modE, natMod, io_sub, io_div, ix_io, gI_sI, gI_sA, gI_sL, gI_sJ, gI_sR, gI_sQ, gI_sD, gI_sN, gI_sz, gA_sI, gA_sA, gA_sL, gA_sJ, gA_sR, gA_sQ, gA_sD, gA_sN, gA_sz, gL_sI, gL_sA, gL_sL, gL_sJ, gL_sR, gL_sQ, gL_sD, gL_sN, gL_sz, gJ_sI, gJ_sA, gJ_sL, gJ_sJ, gJ_sR, gJ_sQ, gJ_sD, gJ_sN, gJ_sz, gR_sI, gR_sA, gR_sL, gR_sJ, gR_sR, gR_sQ, gR_sD, gR_sN, gR_sz, gQ_sI, gQ_sA, gQ_sL, gQ_sJ, gQ_sR, gQ_sQ, gQ_sD, gQ_sN, gQ_sz, gD_sI, gD_sA, gD_sL, gD_sJ, gD_sR, gD_sQ, gD_sD, gD_sN, gD_sz, sz_sI, sz_sA, sz_sL, sz_sJ, sz_sR, sz_sQ, sz_sD, sz_sN, sz_sz, P_person_t P hp]
      rw [cnt] at e1
      rw [e1]
      rfl
    · have f0 : Fr [] [] s (sz' (sJ s 70 0 (io C).toInt64) N) := (Fr.rf.J).Z hN
      have f1 : Fr [2551] [] s (sI (sz' (sJ s 70 0 (io C).toInt64) N) 2551 (io 0)) := ((Fr.rf.J).Z hN).I (by decide)
      have e3 := M_nights_loop (F := F) (H.fr f1) (a := io p) (l3 := io 1) (by decide) (h / 8 + 1) F 0 (by omega) (by omega)
      simp (disch := omega) only [f_M_nights, Option.bind_some, Nat.reduceEqDiff, Nat.add_zero, Nat.zero_add, Nat.reduceLT, Nat.reduceLeDiff, Nat.reduceAdd, Nat.reduceSub, Nat.reduceMul, Nat.reduceDiv, Nat.lt_irrefl, Nat.not_lt_zero, Nat.zero_le, Nat.one_ne_zero, Nat.succ_ne_zero,  lt_def, i32_lit, reduceIte, P_isIn_eq, M_isIn_eq, M_goes_eq, or_false, false_or, or_true, true_or, and_true, true_and, and_false, false_and, not_true, not_false_eq_true, eq_self, if_true, if_false, not_or, not_and, Nat.not_lt, Nat.not_le, io_lt, io_le, io_eq, io_neg1, io_neg1', neg1_lt, io_le_neg1, io_lt_neg1, io_add, io_mul, io_pred, io_modE, natMod, io_sub, io_div, ix_io, gI_sI, gI_sA, gI_sL, gI_sJ, gI_sR, gI_sQ, gI_sD, gI_sN, gI_sz, gA_sI, gA_sA, gA_sL, gA_sJ, gA_sR, gA_sQ, gA_sD, gA_sN, gA_sz, gL_sI, gL_sA, gL_sL, gL_sJ, gL_sR, gL_sQ, gL_sD, gL_sN, gL_sz, gJ_sI, gJ_sA, gJ_sL, gJ_sJ, gJ_sR, gJ_sQ, gJ_sD, gJ_sN, gJ_sz, gR_sI, gR_sA, gR_sL, gR_sJ, gR_sR, gR_sQ, gR_sD, gR_sN, gR_sz, gQ_sI, gQ_sA, gQ_sL, gQ_sJ, gQ_sR, gQ_sQ, gQ_sD, gQ_sN, gQ_sz, gD_sI, gD_sA, gD_sL, gD_sJ, gD_sR, gD_sQ, gD_sD, gD_sN, gD_sz, sz_sI, sz_sA, sz_sL, sz_sJ, sz_sR, sz_sQ, sz_sD, sz_sN, sz_sz, M_person_t (P.fr f0) hp]
      rw [cnt] at e3
      rw [e3]
      have : (fun j => decide (j % 3 = 0 ∧ gA (sI (sz' (sJ s 70 0 (io C).toInt64) N) 2551 (io 0)) 58 j = io p)) = (fun j => decide (j % 3 = 0 ∧ gA s 58 j = io p)) := rfl
      rw [this, hc]
  · refine ⟨io 1, s, ?_, fun N hN => ⟨io 0, sI (sz' s N) 2551 (io 1), ?_, rfl, fun h => absurd h (by decide), (Fr.rf.Z hN).I (by decide)⟩⟩
    · simp (disch := omega) only [f_L_nights, f_P_nights, Option.bind_some, Nat.reduceEqDiff, Nat.add_zero, Nat.zero_add, Nat.reduceLT, Nat.reduceLeDiff, Nat.reduceAdd, Nat.reduceSub, Nat.reduceMul, Nat.reduceDiv, Nat.lt_irrefl, Nat.not_lt_zero, Nat.zero_le, Nat.one_ne_zero, Nat.succ_ne_zero,  lt_def, i32_lit, reduceIte, P_isIn_eq, M_isIn_eq, M_goes_eq, or_false, false_or, or_true, true_or, and_true, true_and, and_false, false_and, not_true, not_false_eq_true, eq_self, if_true, if_false, not_or, not_and, Nat.not_lt, Nat.not_le, io_lt, io_le, io_eq, io_neg1, io_neg1', neg1_lt, io_le_neg1, io_lt_neg1, io_add, io_mul, io_pred, io_modE, natMod, io_sub, io_div, ix_io, gI_sI, gI_sA, gI_sL, gI_sJ, gI_sR, gI_sQ, gI_sD, gI_sN, gI_sz, gA_sI, gA_sA, gA_sL, gA_sJ, gA_sR, gA_sQ, gA_sD, gA_sN, gA_sz, gL_sI, gL_sA, gL_sL, gL_sJ, gL_sR, gL_sQ, gL_sD, gL_sN, gL_sz, gJ_sI, gJ_sA, gJ_sL, gJ_sJ, gJ_sR, gJ_sQ, gJ_sD, gJ_sN, gJ_sz, gR_sI, gR_sA, gR_sL, gR_sJ, gR_sR, gR_sQ, gR_sD, gR_sN, gR_sz, gQ_sI, gQ_sA, gQ_sL, gQ_sJ, gQ_sR, gQ_sQ, gQ_sD, gQ_sN, gQ_sz, gD_sI, gD_sA, gD_sL, gD_sJ, gD_sR, gD_sQ, gD_sD, gD_sN, gD_sz, sz_sI, sz_sA, sz_sL, sz_sJ, sz_sR, sz_sQ, sz_sD, sz_sN, sz_sz, P_person_f P hp, hz]
    · have f0 : Fr [] [] s (sz' s N) := Fr.rf.Z hN
      have f1 : Fr [2551] [] s (sI (sz' s N) 2551 (io 1)) := (Fr.rf.Z hN).I (by decide)
      obtain ⟨F', rfl⟩ : ∃ m, F = m + 1 := ⟨F - 1, by omega⟩
      have e2 := (nowDiv (H.fr f1)).2
      rw [i32_lit] at e2
      simp (disch := omega) only [f_M_nights, f_M_nights_b23, Option.bind_some, Nat.reduceEqDiff, Nat.add_zero, Nat.zero_add, Nat.reduceLT, Nat.reduceLeDiff, Nat.reduceAdd, Nat.reduceSub, Nat.reduceMul, Nat.reduceDiv, Nat.lt_irrefl, Nat.not_lt_zero, Nat.zero_le, Nat.one_ne_zero, Nat.succ_ne_zero,  lt_def, i32_lit, reduceIte, P_isIn_eq, M_isIn_eq, M_goes_eq, or_false, false_or, or_true, true_or, and_true, true_and, and_false, false_and, not_true, not_false_eq_true, eq_self, if_true, if_false, not_or, not_and, Nat.not_lt, Nat.not_le, io_lt, io_le, io_eq, io_neg1, io_neg1', neg1_lt, io_le_neg1, io_lt_neg1, io_add, io_mul, io_pred, io_modE, natMod, io_sub, io_div, ix_io, M_person_f (P.fr f0) hp, e2]
/-! owes -/
theorem P_owes_loop {F d n : Nat} {s : St} (Q : DB s n d) {a b : Int32} : ∀ (k m j : Nat), j + k = d → k < m → f_Rota_debtsOf_b5 F m s a b (io (cnt (fun i => decide (gA s 16 i = a ∧ gA s 17 i = b)) j)) (io j) = some (io (cnt (fun i => decide (gA s 16 i = a ∧ gA s 17 i = b)) d), s) := by
  have hd := Q.1
  have e1 := Q.2.1
  intro k
  induction k with
  | zero =>
    intro m j hj hm
    obtain ⟨m, rfl⟩ : ∃ m', m = m' + 1 := ⟨m - 1, by omega⟩
    have hj' : j = d := by omega
    subst hj'
    simp (disch := omega) only [f_Rota_debtsOf_b5, Option.bind_some, Nat.reduceEqDiff, Nat.add_zero, Nat.zero_add, Nat.reduceLT, Nat.reduceLeDiff, Nat.reduceAdd, Nat.reduceSub, Nat.reduceMul, Nat.reduceDiv, Nat.lt_irrefl, Nat.not_lt_zero, Nat.zero_le, Nat.one_ne_zero, Nat.succ_ne_zero,  lt_def, i32_lit, reduceIte, P_isIn_eq, M_isIn_eq, M_goes_eq, or_false, false_or, or_true, true_or, and_true, true_and, and_false, false_and, not_true, not_false_eq_true, eq_self, if_true, if_false, not_or, not_and, Nat.not_lt, Nat.not_le, io_lt, io_le, io_eq, io_neg1, io_neg1', neg1_lt, io_le_neg1, io_lt_neg1, io_add, io_mul, io_pred, io_modE, natMod, io_sub, io_div, ix_io, gI_sI, gI_sA, gI_sL, gI_sJ, gI_sR, gI_sQ, gI_sD, gI_sN, gI_sz, gA_sI, gA_sA, gA_sL, gA_sJ, gA_sR, gA_sQ, gA_sD, gA_sN, gA_sz, gL_sI, gL_sA, gL_sL, gL_sJ, gL_sR, gL_sQ, gL_sD, gL_sN, gL_sz, gJ_sI, gJ_sA, gJ_sL, gJ_sJ, gJ_sR, gJ_sQ, gJ_sD, gJ_sN, gJ_sz, gR_sI, gR_sA, gR_sL, gR_sJ, gR_sR, gR_sQ, gR_sD, gR_sN, gR_sz, gQ_sI, gQ_sA, gQ_sL, gQ_sJ, gQ_sR, gQ_sQ, gQ_sD, gQ_sN, gQ_sz, gD_sI, gD_sA, gD_sL, gD_sJ, gD_sR, gD_sQ, gD_sD, gD_sN, gD_sz, sz_sI, sz_sA, sz_sL, sz_sJ, sz_sR, sz_sQ, sz_sD, sz_sN, sz_sz, e1, Nat.le_refl]
  | succ k ih =>
    intro m j hj hm
    obtain ⟨m, rfl⟩ : ∃ m', m = m' + 1 := ⟨m - 1, by omega⟩
    have h1 : ¬ d ≤ j := by omega
    have h2 : ¬ 4000 ≤ j := by omega
    have h3 := ih m (j + 1) (by omega) (by omega)
    by_cases h4 : gA s 16 j = a
    · by_cases h5 : gA s 17 j = b
      · rw [cnt, if_pos (by simp [h4, h5])] at h3
        simp (disch := omega) only [f_Rota_debtsOf_b5, Option.bind_some, Nat.reduceEqDiff, Nat.add_zero, Nat.zero_add, Nat.reduceLT, Nat.reduceLeDiff, Nat.reduceAdd, Nat.reduceSub, Nat.reduceMul, Nat.reduceDiv, Nat.lt_irrefl, Nat.not_lt_zero, Nat.zero_le, Nat.one_ne_zero, Nat.succ_ne_zero,  lt_def, i32_lit, reduceIte, P_isIn_eq, M_isIn_eq, M_goes_eq, or_false, false_or, or_true, true_or, and_true, true_and, and_false, false_and, not_true, not_false_eq_true, eq_self, if_true, if_false, not_or, not_and, Nat.not_lt, Nat.not_le, io_lt, io_le, io_eq, io_neg1, io_neg1', neg1_lt, io_le_neg1, io_lt_neg1, io_add, io_mul, io_pred, io_modE, natMod, io_sub, io_div, ix_io, gI_sI, gI_sA, gI_sL, gI_sJ, gI_sR, gI_sQ, gI_sD, gI_sN, gI_sz, gA_sI, gA_sA, gA_sL, gA_sJ, gA_sR, gA_sQ, gA_sD, gA_sN, gA_sz, gL_sI, gL_sA, gL_sL, gL_sJ, gL_sR, gL_sQ, gL_sD, gL_sN, gL_sz, gJ_sI, gJ_sA, gJ_sL, gJ_sJ, gJ_sR, gJ_sQ, gJ_sD, gJ_sN, gJ_sz, gR_sI, gR_sA, gR_sL, gR_sJ, gR_sR, gR_sQ, gR_sD, gR_sN, gR_sz, gQ_sI, gQ_sA, gQ_sL, gQ_sJ, gQ_sR, gQ_sQ, gQ_sD, gQ_sN, gQ_sz, gD_sI, gD_sA, gD_sL, gD_sJ, gD_sR, gD_sQ, gD_sD, gD_sN, gD_sz, sz_sI, sz_sA, sz_sL, sz_sJ, sz_sR, sz_sQ, sz_sD, sz_sN, sz_sz, e1, h1, h2, h4, h5]
        exact h3
      · rw [cnt, if_neg (by simp [h5])] at h3
        simp (disch := omega) only [f_Rota_debtsOf_b5, Option.bind_some, Nat.reduceEqDiff, Nat.add_zero, Nat.zero_add, Nat.reduceLT, Nat.reduceLeDiff, Nat.reduceAdd, Nat.reduceSub, Nat.reduceMul, Nat.reduceDiv, Nat.lt_irrefl, Nat.not_lt_zero, Nat.zero_le, Nat.one_ne_zero, Nat.succ_ne_zero,  lt_def, i32_lit, reduceIte, P_isIn_eq, M_isIn_eq, M_goes_eq, or_false, false_or, or_true, true_or, and_true, true_and, and_false, false_and, not_true, not_false_eq_true, eq_self, if_true, if_false, not_or, not_and, Nat.not_lt, Nat.not_le, io_lt, io_le, io_eq, io_neg1, io_neg1', neg1_lt, io_le_neg1, io_lt_neg1, io_add, io_mul, io_pred, io_modE, natMod, io_sub, io_div, ix_io, gI_sI, gI_sA, gI_sL, gI_sJ, gI_sR, gI_sQ, gI_sD, gI_sN, gI_sz, gA_sI, gA_sA, gA_sL, gA_sJ, gA_sR, gA_sQ, gA_sD, gA_sN, gA_sz, gL_sI, gL_sA, gL_sL, gL_sJ, gL_sR, gL_sQ, gL_sD, gL_sN, gL_sz, gJ_sI, gJ_sA, gJ_sL, gJ_sJ, gJ_sR, gJ_sQ, gJ_sD, gJ_sN, gJ_sz, gR_sI, gR_sA, gR_sL, gR_sJ, gR_sR, gR_sQ, gR_sD, gR_sN, gR_sz, gQ_sI, gQ_sA, gQ_sL, gQ_sJ, gQ_sR, gQ_sQ, gQ_sD, gQ_sN, gQ_sz, gD_sI, gD_sA, gD_sL, gD_sJ, gD_sR, gD_sQ, gD_sD, gD_sN, gD_sz, sz_sI, sz_sA, sz_sL, sz_sJ, sz_sR, sz_sQ, sz_sD, sz_sN, sz_sz, e1, h1, h2, h4, h5]
        exact h3
    · rw [cnt, if_neg (by simp [h4])] at h3
      simp (disch := omega) only [f_Rota_debtsOf_b5, Option.bind_some, Nat.reduceEqDiff, Nat.add_zero, Nat.zero_add, Nat.reduceLT, Nat.reduceLeDiff, Nat.reduceAdd, Nat.reduceSub, Nat.reduceMul, Nat.reduceDiv, Nat.lt_irrefl, Nat.not_lt_zero, Nat.zero_le, Nat.one_ne_zero, Nat.succ_ne_zero,  lt_def, i32_lit, reduceIte, P_isIn_eq, M_isIn_eq, M_goes_eq, or_false, false_or, or_true, true_or, and_true, true_and, and_false, false_and, not_true, not_false_eq_true, eq_self, if_true, if_false, not_or, not_and, Nat.not_lt, Nat.not_le, io_lt, io_le, io_eq, io_neg1, io_neg1', neg1_lt, io_le_neg1, io_lt_neg1, io_add, io_mul, io_pred, io_modE, natMod, io_sub, io_div, ix_io, gI_sI, gI_sA, gI_sL, gI_sJ, gI_sR, gI_sQ, gI_sD, gI_sN, gI_sz, gA_sI, gA_sA, gA_sL, gA_sJ, gA_sR, gA_sQ, gA_sD, gA_sN, gA_sz, gL_sI, gL_sA, gL_sL, gL_sJ, gL_sR, gL_sQ, gL_sD, gL_sN, gL_sz, gJ_sI, gJ_sA, gJ_sL, gJ_sJ, gJ_sR, gJ_sQ, gJ_sD, gJ_sN, gJ_sz, gR_sI, gR_sA, gR_sL, gR_sJ, gR_sR, gR_sQ, gR_sD, gR_sN, gR_sz, gQ_sI, gQ_sA, gQ_sL, gQ_sJ, gQ_sR, gQ_sQ, gQ_sD, gQ_sN, gQ_sz, gD_sI, gD_sA, gD_sL, gD_sJ, gD_sR, gD_sQ, gD_sD, gD_sN, gD_sz, sz_sI, sz_sA, sz_sL, sz_sJ, sz_sR, sz_sQ, sz_sD, sz_sN, sz_sz, e1, h1, h2, h4]
      exact h3
theorem M_owes_loop {F d n : Nat} {s : St} (Q : DB s n d) {a b l4 : Int32} (hl : ¬ l4 = io 0) : ∀ (k m j : Nat), j + k = d → k < m → f_M_owes_b32 F m s a b (io (cnt (fun i => decide (gA s 69 i = io 8 * a + b)) j)) l4 (io j) = some (io (cnt (fun i => decide (gA s 69 i = io 8 * a + b)) d), s) := by
  have hd := Q.1
  have e1 := Q.2.2.1
  intro k
  induction k with
  | zero =>
    intro m j hj hm
    obtain ⟨m, rfl⟩ : ∃ m', m = m' + 1 := ⟨m - 1, by omega⟩
    have hj' : j = d := by omega
    subst hj'
    simp (disch := omega) only [f_M_owes_b32, Option.bind_some, Nat.reduceEqDiff, Nat.add_zero, Nat.zero_add, Nat.reduceLT, Nat.reduceLeDiff, Nat.reduceAdd, Nat.reduceSub, Nat.reduceMul, Nat.reduceDiv, Nat.lt_irrefl, Nat.not_lt_zero, Nat.zero_le, Nat.one_ne_zero, Nat.succ_ne_zero,  lt_def, i32_lit, reduceIte, P_isIn_eq, M_isIn_eq, M_goes_eq, or_false, false_or, or_true, true_or, and_true, true_and, and_false, false_and, not_true, not_false_eq_true, eq_self, if_true, if_false, not_or, not_and, Nat.not_lt, Nat.not_le, io_lt, io_le, io_eq, io_neg1, io_neg1', neg1_lt, io_le_neg1, io_lt_neg1, io_add, io_mul, io_pred, io_modE, natMod, io_sub, io_div, ix_io, gI_sI, gI_sA, gI_sL, gI_sJ, gI_sR, gI_sQ, gI_sD, gI_sN, gI_sz, gA_sI, gA_sA, gA_sL, gA_sJ, gA_sR, gA_sQ, gA_sD, gA_sN, gA_sz, gL_sI, gL_sA, gL_sL, gL_sJ, gL_sR, gL_sQ, gL_sD, gL_sN, gL_sz, gJ_sI, gJ_sA, gJ_sL, gJ_sJ, gJ_sR, gJ_sQ, gJ_sD, gJ_sN, gJ_sz, gR_sI, gR_sA, gR_sL, gR_sJ, gR_sR, gR_sQ, gR_sD, gR_sN, gR_sz, gQ_sI, gQ_sA, gQ_sL, gQ_sJ, gQ_sR, gQ_sQ, gQ_sD, gQ_sN, gQ_sz, gD_sI, gD_sA, gD_sL, gD_sJ, gD_sR, gD_sQ, gD_sD, gD_sN, gD_sz, sz_sI, sz_sA, sz_sL, sz_sJ, sz_sR, sz_sQ, sz_sD, sz_sN, sz_sz, e1, Nat.le_refl]
  | succ k ih =>
    intro m j hj hm
    obtain ⟨m, rfl⟩ : ∃ m', m = m' + 1 := ⟨m - 1, by omega⟩
    have h1 : ¬ d ≤ j := by omega
    have h3 := ih m (j + 1) (by omega) (by omega)
    by_cases h4 : gA s 69 j = io 8 * a + b
    · rw [cnt, if_pos (by simp [h4])] at h3
      simp (disch := omega) only [f_M_owes_b32, Option.bind_some, Nat.reduceEqDiff, Nat.add_zero, Nat.zero_add, Nat.reduceLT, Nat.reduceLeDiff, Nat.reduceAdd, Nat.reduceSub, Nat.reduceMul, Nat.reduceDiv, Nat.lt_irrefl, Nat.not_lt_zero, Nat.zero_le, Nat.one_ne_zero, Nat.succ_ne_zero,  lt_def, i32_lit, reduceIte, P_isIn_eq, M_isIn_eq, M_goes_eq, or_false, false_or, or_true, true_or, and_true, true_and, and_false, false_and, not_true, not_false_eq_true, eq_self, if_true, if_false, not_or, not_and, Nat.not_lt, Nat.not_le, io_lt, io_le, io_eq, io_neg1, io_neg1', neg1_lt, io_le_neg1, io_lt_neg1, io_add, io_mul, io_pred, io_modE, natMod, io_sub, io_div, ix_io, gI_sI, gI_sA, gI_sL, gI_sJ, gI_sR, gI_sQ, gI_sD, gI_sN, gI_sz, gA_sI, gA_sA, gA_sL, gA_sJ, gA_sR, gA_sQ, gA_sD, gA_sN, gA_sz, gL_sI, gL_sA, gL_sL, gL_sJ, gL_sR, gL_sQ, gL_sD, gL_sN, gL_sz, gJ_sI, gJ_sA, gJ_sL, gJ_sJ, gJ_sR, gJ_sQ, gJ_sD, gJ_sN, gJ_sz, gR_sI, gR_sA, gR_sL, gR_sJ, gR_sR, gR_sQ, gR_sD, gR_sN, gR_sz, gQ_sI, gQ_sA, gQ_sL, gQ_sJ, gQ_sR, gQ_sQ, gQ_sD, gQ_sN, gQ_sz, gD_sI, gD_sA, gD_sL, gD_sJ, gD_sR, gD_sQ, gD_sD, gD_sN, gD_sz, sz_sI, sz_sA, sz_sL, sz_sJ, sz_sR, sz_sQ, sz_sD, sz_sN, sz_sz, e1, h1, hl, h4]
      exact h3
    · rw [cnt, if_neg (by simp [h4])] at h3
      simp (disch := omega) only [f_M_owes_b32, Option.bind_some, Nat.reduceEqDiff, Nat.add_zero, Nat.zero_add, Nat.reduceLT, Nat.reduceLeDiff, Nat.reduceAdd, Nat.reduceSub, Nat.reduceMul, Nat.reduceDiv, Nat.lt_irrefl, Nat.not_lt_zero, Nat.zero_le, Nat.one_ne_zero, Nat.succ_ne_zero,  lt_def, i32_lit, reduceIte, P_isIn_eq, M_isIn_eq, M_goes_eq, or_false, false_or, or_true, true_or, and_true, true_and, and_false, false_and, not_true, not_false_eq_true, eq_self, if_true, if_false, not_or, not_and, Nat.not_lt, Nat.not_le, io_lt, io_le, io_eq, io_neg1, io_neg1', neg1_lt, io_le_neg1, io_lt_neg1, io_add, io_mul, io_pred, io_modE, natMod, io_sub, io_div, ix_io, gI_sI, gI_sA, gI_sL, gI_sJ, gI_sR, gI_sQ, gI_sD, gI_sN, gI_sz, gA_sI, gA_sA, gA_sL, gA_sJ, gA_sR, gA_sQ, gA_sD, gA_sN, gA_sz, gL_sI, gL_sA, gL_sL, gL_sJ, gL_sR, gL_sQ, gL_sD, gL_sN, gL_sz, gJ_sI, gJ_sA, gJ_sL, gJ_sJ, gJ_sR, gJ_sQ, gJ_sD, gJ_sN, gJ_sz, gR_sI, gR_sA, gR_sL, gR_sJ, gR_sR, gR_sQ, gR_sD, gR_sN, gR_sz, gQ_sI, gQ_sA, gQ_sL, gQ_sJ, gQ_sR, gQ_sQ, gQ_sD, gQ_sN, gQ_sz, gD_sI, gD_sA, gD_sL, gD_sJ, gD_sR, gD_sQ, gD_sD, gD_sN, gD_sz, sz_sI, sz_sA, sz_sL, sz_sJ, sz_sR, sz_sQ, sz_sD, sz_sN, sz_sz, e1, h1, hl, h4]
      exact h3
theorem op_owes {F : Nat} (hF : 5000 ≤ F) {s : St} {n d : Nat} (P : PE s n) (Q : DB s n d) (a1 a2 : Int32) : ∃ k s1, f_L_owes F s a1 a2 = some (k, s1) ∧ ∀ N, sz s1 ≤ N → ∃ b s2, f_M_owes F (sz' s1 N) a1 a2 = some (b, s2) ∧ gI s2 2551 = k ∧ (k = 0 → gJ s2 70 0 = b.toInt64) ∧ Fr [2551] [] s s2 := by
  have hz := szlt s
  have hn := P.1
  have hd := Q.1
  have hbad : ∀ N, sz s ≤ N → f_M_owes_b32 F F (sI (sz' s N) 2551 (io 1)) a1 a2 (io 0) (io 0) (io 0) = some (io 0, sI (sz' s N) 2551 (io 1)) := fun N hN => by
    have f1 : Fr [2551] [] s (sI (sz' s N) 2551 (io 1)) := (Fr.rf.Z hN).I (by decide)
    obtain ⟨F', rfl⟩ : ∃ m, F = m + 1 := ⟨F - 1, by omega⟩
    have e2 := (Q.fr f1).2.2.1
    by_cases h0 : d ≤ 0 <;> simp (disch := omega) only [f_M_owes_b32, Option.bind_some, Nat.reduceEqDiff, Nat.add_zero, Nat.zero_add, Nat.reduceLT, Nat.reduceLeDiff, Nat.reduceAdd, Nat.reduceSub, Nat.reduceMul, Nat.reduceDiv, Nat.lt_irrefl, Nat.not_lt_zero, Nat.zero_le, Nat.one_ne_zero, Nat.succ_ne_zero,  lt_def, i32_lit, reduceIte, P_isIn_eq, M_isIn_eq, M_goes_eq, or_false, false_or, or_true, true_or, and_true, true_and, and_false, false_and, not_true, not_false_eq_true, eq_self, if_true, if_false, not_or, not_and, Nat.not_lt, Nat.not_le, io_lt, io_le, io_eq, io_neg1, io_neg1', neg1_lt, io_le_neg1, io_lt_neg1, io_add, io_mul, io_pred, io_modE, natMod, io_sub, io_div, ix_io, e2, h0]
  by_cases hp : isP n a1
  · by_cases hq : isP n a2
    · obtain ⟨p, hp1, rfl⟩ := id hp
      obtain ⟨q, hq1, rfl⟩ := id hq
      have e1 := P_owes_loop (F := F) Q (a := io p) (b := io q) d F 0 (by omega) (by omega)
      have ec : cnt (fun i => decide (gA s 16 i = io p ∧ gA s 17 i = io q)) d = cnt (fun i => decide (gA s 69 i = io 8 * io p + io q)) d := cnt_ext (fun i hi => by
        obtain ⟨x, y, hx, hy, f1, f2, f3⟩ := Q.2.2.2 i hi
        apply decide_eq_decide.mpr
        rw [f1, f2, f3, io_mul, io_add, io_eq (by omega) (by omega), io_eq (by omega) (by omega), io_eq (by omega) (by omega)]
        omega)
      rw [ec] at e1
      generalize hc : cnt (fun i => decide (gA s 69 i = io 8 * io p + io q)) d = C at e1
      refine ⟨io 0, sJ s 70 0 (io C).toInt64, ?_, fun N hN => ⟨io C, sI (sz' (sJ s 70 0 (io C).toInt64) N) 2551 (io 0), ?_, rfl, fun _ => rfl, (((Fr.rf).J).Z hN).I (by decide)⟩⟩
      · simp (disch := omega) only [f_L_owes, f_P_owes, f_Rota_debtsOf, Option.bind_some, Nat.reduceEqDiff, Nat.add_zero, Nat.zero_add, Nat.reduceLT, Nat.reduceLeDiff, Nat.reduceAdd, Nat.reduceSub, Nat.reduceMul, Nat.reduceDiv, Nat.lt_irrefl, Nat.not_lt_zero, Nat.zero_le, Nat.one_ne_zero, Nat.succ_ne_zero,  lt_def, i32_lit, reduceIte, P_isIn_eq, M_isIn_eq, M_goes_eq, or_false, false_or, or_true, true_or, and_true, true_and, and_false, false_and, not_true, not_false_eq_true, eq_self, if_true, if_false, not_or, not_and, Nat.not_lt, Nat.not_le, io_lt, io_le, io_eq, io_neg1, io_neg1', neg1_lt, io_le_neg1, io_lt_neg1, io_add, io_mul, io_pred, io_modE, natMod, io_sub, io_div, ix_io, gI_sI, gI_sA, gI_sL, gI_sJ, gI_sR, gI_sQ, gI_sD, gI_sN, gI_sz, gA_sI, gA_sA, gA_sL, gA_sJ, gA_sR, gA_sQ, gA_sD, gA_sN, gA_sz, gL_sI, gL_sA, gL_sL, gL_sJ, gL_sR, gL_sQ, gL_sD, gL_sN, gL_sz, gJ_sI, gJ_sA, gJ_sL, gJ_sJ, gJ_sR, gJ_sQ, gJ_sD, gJ_sN, gJ_sz, gR_sI, gR_sA, gR_sL, gR_sJ, gR_sR, gR_sQ, gR_sD, gR_sN, gR_sz, gQ_sI, gQ_sA, gQ_sL, gQ_sJ, gQ_sR, gQ_sQ, gQ_sD, gQ_sN, gQ_sz, gD_sI, gD_sA, gD_sL, gD_sJ, gD_sR, gD_sQ, gD_sD, gD_sN, gD_sz, sz_sI, sz_sA, sz_sL, sz_sJ, sz_sR, sz_sQ, sz_sD, sz_sN, sz_sz, P_person_t P hp, P_person_t P hq]
        rw [cnt] at e1
        rw [e1]
        rfl
      · have f0 : Fr [] [] s (sz' (sJ s 70 0 (io C).toInt64) N) := (Fr.rf.J).Z hN
        have f1 : Fr [2551] [] s (sI (sz' (sJ s 70 0 (io C).toInt64) N) 2551 (io 0)) := ((Fr.rf.J).Z hN).I (by decide)
        have e3 := M_owes_loop (F := F) (Q.fr f1) (a := io p) (b := io q) (l4 := io 1) (by decide) d F 0 (by omega) (by omega)
        simp (disch := omega) only [f_M_owes, Option.bind_some, Nat.reduceEqDiff, Nat.add_zero, Nat.zero_add, Nat.reduceLT, Nat.reduceLeDiff, Nat.reduceAdd, Nat.reduceSub, Nat.reduceMul, Nat.reduceDiv, Nat.lt_irrefl, Nat.not_lt_zero, Nat.zero_le, Nat.one_ne_zero, Nat.succ_ne_zero,  lt_def, i32_lit, reduceIte, P_isIn_eq, M_isIn_eq, M_goes_eq, or_false, false_or, or_true, true_or, and_true, true_and, and_false, false_and, not_true, not_false_eq_true, eq_self, if_true, if_false, not_or, not_and, Nat.not_lt, Nat.not_le, M_person_t (P.fr f0) hp, M_person_t (P.fr f0) hq, io_eq]
        rw [cnt] at e3
        rw [e3]
        have : (fun i => decide (gA (sI (sz' (sJ s 70 0 (io C).toInt64) N) 2551 (io 0)) 69 i = io 8 * io p + io q)) = (fun i => decide (gA s 69 i = io 8 * io p + io q)) := rfl
        rw [this, hc]
    · refine ⟨io 1, s, ?_, fun N hN => ⟨io 0, sI (sz' s N) 2551 (io 1), ?_, rfl, fun h => absurd h (by decide), (Fr.rf.Z hN).I (by decide)⟩⟩
      · simp (disch := omega) only [f_L_owes, f_P_owes, Option.bind_some, Nat.reduceEqDiff, Nat.add_zero, Nat.zero_add, Nat.reduceLT, Nat.reduceLeDiff, Nat.reduceAdd, Nat.reduceSub, Nat.reduceMul, Nat.reduceDiv, Nat.lt_irrefl, Nat.not_lt_zero, Nat.zero_le, Nat.one_ne_zero, Nat.succ_ne_zero,  lt_def, i32_lit, reduceIte, P_isIn_eq, M_isIn_eq, M_goes_eq, or_false, false_or, or_true, true_or, and_true, true_and, and_false, false_and, not_true, not_false_eq_true, eq_self, if_true, if_false, not_or, not_and, Nat.not_lt, Nat.not_le, io_lt, io_le, io_eq, io_neg1, io_neg1', neg1_lt, io_le_neg1, io_lt_neg1, io_add, io_mul, io_pred, io_modE, natMod, io_sub, io_div, ix_io, gI_sI, gI_sA, gI_sL, gI_sJ, gI_sR, gI_sQ, gI_sD, gI_sN, gI_sz, gA_sI, gA_sA, gA_sL, gA_sJ, gA_sR, gA_sQ, gA_sD, gA_sN, gA_sz, gL_sI, gL_sA, gL_sL, gL_sJ, gL_sR, gL_sQ, gL_sD, gL_sN, gL_sz, gJ_sI, gJ_sA, gJ_sL, gJ_sJ, gJ_sR, gJ_sQ, gJ_sD, gJ_sN, gJ_sz, gR_sI, gR_sA, gR_sL, gR_sJ, gR_sR, gR_sQ, gR_sD, gR_sN, gR_sz, gQ_sI, gQ_sA, gQ_sL, gQ_sJ, gQ_sR, gQ_sQ, gQ_sD, gQ_sN, gQ_sz, gD_sI, gD_sA, gD_sL, gD_sJ, gD_sR, gD_sQ, gD_sD, gD_sN, gD_sz, sz_sI, sz_sA, sz_sL, sz_sJ, sz_sR, sz_sQ, sz_sD, sz_sN, sz_sz, P_person_t P hp, P_person_f P hq, hz]
      · have f0 : Fr [] [] s (sz' s N) := Fr.rf.Z hN
        simp (disch := omega) only [f_M_owes, Option.bind_some, Nat.reduceEqDiff, Nat.add_zero, Nat.zero_add, Nat.reduceLT, Nat.reduceLeDiff, Nat.reduceAdd, Nat.reduceSub, Nat.reduceMul, Nat.reduceDiv, Nat.lt_irrefl, Nat.not_lt_zero, Nat.zero_le, Nat.one_ne_zero, Nat.succ_ne_zero,  lt_def, i32_lit, reduceIte, P_isIn_eq, M_isIn_eq, M_goes_eq, or_false, false_or, or_true, true_or, and_true, true_and, and_false, false_and, not_true, not_false_eq_true, eq_self, if_true, if_false, not_or, not_and, Nat.not_lt, Nat.not_le, M_person_t (P.fr f0) hp, M_person_f (P.fr f0) hq, io_eq, hbad N hN]
  · refine ⟨io 1, s, ?_, fun N hN => ⟨io 0, sI (sz' s N) 2551 (io 1), ?_, rfl, fun h => absurd h (by decide), (Fr.rf.Z hN).I (by decide)⟩⟩
    · simp (disch := omega) only [f_L_owes, f_P_owes, Option.bind_some, Nat.reduceEqDiff, Nat.add_zero, Nat.zero_add, Nat.reduceLT, Nat.reduceLeDiff, Nat.reduceAdd, Nat.reduceSub, Nat.reduceMul, Nat.reduceDiv, Nat.lt_irrefl, Nat.not_lt_zero, Nat.zero_le, Nat.one_ne_zero, Nat.succ_ne_zero,  lt_def, i32_lit, reduceIte, P_isIn_eq, M_isIn_eq, M_goes_eq, or_false, false_or, or_true, true_or, and_true, true_and, and_false, false_and, not_true, not_false_eq_true, eq_self, if_true, if_false, not_or, not_and, Nat.not_lt, Nat.not_le, io_lt, io_le, io_eq, io_neg1, io_neg1', neg1_lt, io_le_neg1, io_lt_neg1, io_add, io_mul, io_pred, io_modE, natMod, io_sub, io_div, ix_io, gI_sI, gI_sA, gI_sL, gI_sJ, gI_sR, gI_sQ, gI_sD, gI_sN, gI_sz, gA_sI, gA_sA, gA_sL, gA_sJ, gA_sR, gA_sQ, gA_sD, gA_sN, gA_sz, gL_sI, gL_sA, gL_sL, gL_sJ, gL_sR, gL_sQ, gL_sD, gL_sN, gL_sz, gJ_sI, gJ_sA, gJ_sL, gJ_sJ, gJ_sR, gJ_sQ, gJ_sD, gJ_sN, gJ_sz, gR_sI, gR_sA, gR_sL, gR_sJ, gR_sR, gR_sQ, gR_sD, gR_sN, gR_sz, gQ_sI, gQ_sA, gQ_sL, gQ_sJ, gQ_sR, gQ_sQ, gQ_sD, gQ_sN, gQ_sz, gD_sI, gD_sA, gD_sL, gD_sJ, gD_sR, gD_sQ, gD_sD, gD_sN, gD_sz, sz_sI, sz_sA, sz_sL, sz_sJ, sz_sR, sz_sQ, sz_sD, sz_sN, sz_sz, P_person_f P hp, hz]
    · have f0 : Fr [] [] s (sz' s N) := Fr.rf.Z hN
      simp (disch := omega) only [f_M_owes, Option.bind_some, Nat.reduceEqDiff, Nat.add_zero, Nat.zero_add, Nat.reduceLT, Nat.reduceLeDiff, Nat.reduceAdd, Nat.reduceSub, Nat.reduceMul, Nat.reduceDiv, Nat.lt_irrefl, Nat.not_lt_zero, Nat.zero_le, Nat.one_ne_zero, Nat.succ_ne_zero,  lt_def, i32_lit, reduceIte, P_isIn_eq, M_isIn_eq, M_goes_eq, or_false, false_or, or_true, true_or, and_true, true_and, and_false, false_and, not_true, not_false_eq_true, eq_self, if_true, if_false, not_or, not_and, Nat.not_lt, Nat.not_le, M_person_f (P.fr f0) hp, io_eq, hbad N hN]
