/-! alarms -/
/-- an alarm's row in the model: its rule, its hour, who was woken (1 more; 0: nobody), when, whether it was answered -/
def enc (q t p u a : Nat) : Nat := q + 4 * t + 4096 * p + 65536 * u + 67108864 * a
def ALr (s : St) (h n r w i : Nat) : Prop := ∃ q t p u a, q < r ∧ 1 ≤ t ∧ t ≤ h ∧ a ≤ 1 ∧ gA s 19 i = io q ∧ gA s 20 i = io t ∧ gA s 23 i = io a ∧ gA s 68 i = io (enc q t p u a) ∧
  ((i < w ∧ 1 ≤ p ∧ p ≤ n ∧ u ≤ h ∧ gA s 21 i = io (p - 1) ∧ gA s 22 i = io u) ∨ (w ≤ i ∧ p = 0 ∧ u = 0 ∧ a = 0))
def AL (s : St) (h n r c w : Nat) : Prop := c ≤ 4000 ∧ r ≤ 4 ∧ w ≤ c ∧ gI s 1157 = io c ∧ gI s 1158 = io w ∧ gI s 2546 = io c ∧ (∀ i, c ≤ i → i < 4000 → gA s 23 i = io 0) ∧ ∀ i, i < c → ALr s h n r w i
theorem ALr.fr {eI eA : List Nat} {s s' : St} {h n r w i : Nat} (H : ALr s h n r w i) (f : Fr eI eA s s') (d : ∀ k ∈ [19, 20, 21, 22, 23, 68], k ∉ eA := by decide) : ALr s' h n r w i := by
  unfold ALr
  rw [f.ga 19 (d 19 (by decide)), f.ga 20 (d 20 (by decide)), f.ga 21 (d 21 (by decide)), f.ga 22 (d 22 (by decide)), f.ga 23 (d 23 (by decide)), f.ga 68 (d 68 (by decide))]
  exact H
theorem AL.fr {eI eA : List Nat} {s s' : St} {h n r c w : Nat} (H : AL s h n r c w) (f : Fr eI eA s s') (d1 : 1157 ∉ eI := by decide) (d2 : 1158 ∉ eI := by decide) (d3 : 2546 ∉ eI := by decide) (d : ∀ k ∈ [19, 20, 21, 22, 23, 68], k ∉ eA := by decide) : AL s' h n r c w :=
  ⟨H.1, H.2.1, H.2.2.1, by rw [f.gi _ d1]; exact H.2.2.2.1, by rw [f.gi _ d2]; exact H.2.2.2.2.1, by rw [f.gi _ d3]; exact H.2.2.2.2.2.1, by rw [f.ga 23 (d 23 (by decide))]; exact H.2.2.2.2.2.2.1, fun i hi => (H.2.2.2.2.2.2.2 i hi).fr f d⟩
theorem and3 (x : Nat) : x &&& 3 = x % 4 := Nat.and_two_pow_sub_one_eq_mod x 2
theorem and15 (x : Nat) : x &&& 15 = x % 16 := Nat.and_two_pow_sub_one_eq_mod x 4
theorem and1023 (x : Nat) : x &&& 1023 = x % 1024 := Nat.and_two_pow_sub_one_eq_mod x 10
theorem shr2 (x : Nat) : x >>> 2 = x / 4 := Nat.shiftRight_eq_div_pow x 2
theorem shr12 (x : Nat) : x >>> 12 = x / 4096 := Nat.shiftRight_eq_div_pow x 12
theorem shr16 (x : Nat) : x >>> 16 = x / 65536 := Nat.shiftRight_eq_div_pow x 16
theorem shr26 (x : Nat) : x >>> 26 = x / 67108864 := Nat.shiftRight_eq_div_pow x 26
theorem enc_lt {q t p u a : Nat} (hq : q < 4) (ht : t ≤ 1000) (hp : p ≤ 8) (hu : u ≤ 1000) (ha : a ≤ 1) : enc q t p u a < 134217728 := by unfold enc; omega
theorem enc_q {q t p u a : Nat} (hq : q < 4) : enc q t p u a % 4 = q := by unfold enc; omega
theorem enc_t {q t p u a : Nat} (hq : q < 4) (ht : t ≤ 1000) : enc q t p u a / 4 % 1024 = t := by unfold enc; omega
theorem enc_p {q t p u a : Nat} (hq : q < 4) (ht : t ≤ 1000) (hp : p ≤ 8) : enc q t p u a / 4096 % 16 = p := by unfold enc; omega
theorem enc_u {q t p u a : Nat} (hq : q < 4) (ht : t ≤ 1000) (hp : p ≤ 8) (hu : u ≤ 1000) : enc q t p u a / 65536 % 1024 = u := by unfold enc; omega
theorem enc_a {q t p u a : Nat} (hq : q < 4) (ht : t ≤ 1000) (hp : p ≤ 8) (hu : u ≤ 1000) : enc q t p u a / 67108864 = a := by unfold enc; omega
/-- is an alarm -/
theorem P_has_t {F h n r c w : Nat} {s : St} (A : AL s h n r c w) {i : Nat} (hi : i < c) : f_Alarms_has F s (io i) = some (io 1, s) := by
  have hc := A.1
  have e1 := A.2.2.2.1
  have h1 : ¬ c ≤ i := by omega
  have h2 : ¬ 4000 ≤ i := by omega
  simp (disch := omega) only [f_Alarms_has, Option.bind_some, Nat.reduceEqDiff, Nat.add_zero, Nat.zero_add, Nat.reduceLT, Nat.reduceLeDiff, Nat.reduceAdd, Nat.reduceSub, Nat.reduceMul, Nat.reduceDiv, Nat.lt_irrefl, Nat.not_lt_zero, Nat.zero_le, Nat.one_ne_zero, Nat.succ_ne_zero,  lt_def, i32_lit, reduceIte, P_isIn_eq, M_isIn_eq, M_goes_eq, or_false, false_or, or_true, true_or, and_true, true_and, and_false, false_and, not_true, not_false_eq_true, eq_self, if_true, if_false, not_or, not_and, Nat.not_lt, Nat.not_le, io_lt, io_le, io_eq, io_neg1, io_neg1', neg1_lt, io_le_neg1, io_lt_neg1, io_add, io_mul, io_pred, io_modE, natMod, io_sub, io_div, ix_io, gI_sI, gI_sA, gI_sL, gI_sJ, gI_sR, gI_sQ, gI_sD, gI_sN, gI_sz, gA_sI, gA_sA, gA_sL, gA_sJ, gA_sR, gA_sQ, gA_sD, gA_sN, gA_sz, gL_sI, gL_sA, gL_sL, gL_sJ, gL_sR, gL_sQ, gL_sD, gL_sN, gL_sz, gJ_sI, gJ_sA, gJ_sL, gJ_sJ, gJ_sR, gJ_sQ, gJ_sD, gJ_sN, gJ_sz, gR_sI, gR_sA, gR_sL, gR_sJ, gR_sR, gR_sQ, gR_sD, gR_sN, gR_sz, gQ_sI, gQ_sA, gQ_sL, gQ_sJ, gQ_sR, gQ_sQ, gQ_sD, gQ_sN, gQ_sz, gD_sI, gD_sA, gD_sL, gD_sJ, gD_sR, gD_sQ, gD_sD, gD_sN, gD_sz, sz_sI, sz_sA, sz_sL, sz_sJ, sz_sR, sz_sQ, sz_sD, sz_sN, sz_sz, e1, h1, h2]
theorem P_has_f {F h n r c w : Nat} {s : St} (A : AL s h n r c w) {x : Int32} (hx : ¬ ∃ i, i < c ∧ x = io i) : f_Alarms_has F s x = some (io 0, s) := by
  have hc := A.1
  have e1 := A.2.2.2.1
  by_cases h0 : x < io 0
  · simp (disch := omega) only [f_Alarms_has, Option.bind_some, Nat.reduceEqDiff, Nat.add_zero, Nat.zero_add, Nat.reduceLT, Nat.reduceLeDiff, Nat.reduceAdd, Nat.reduceSub, Nat.reduceMul, Nat.reduceDiv, Nat.lt_irrefl, Nat.not_lt_zero, Nat.zero_le, Nat.one_ne_zero, Nat.succ_ne_zero,  lt_def, i32_lit, reduceIte, P_isIn_eq, M_isIn_eq, M_goes_eq, or_false, false_or, or_true, true_or, and_true, true_and, and_false, false_and, not_true, not_false_eq_true, eq_self, if_true, if_false, not_or, not_and, Nat.not_lt, Nat.not_le, h0]
  · rw [i32_nlt] at h0
    obtain ⟨e, hl⟩ := io_of h0
    have h1 : c ≤ x.toNatClampNeg := Classical.byContradiction fun hn => hx ⟨_, by omega, e⟩
    rw [e]
    simp (disch := omega) only [f_Alarms_has, Option.bind_some, Nat.reduceEqDiff, Nat.add_zero, Nat.zero_add, Nat.reduceLT, Nat.reduceLeDiff, Nat.reduceAdd, Nat.reduceSub, Nat.reduceMul, Nat.reduceDiv, Nat.lt_irrefl, Nat.not_lt_zero, Nat.zero_le, Nat.one_ne_zero, Nat.succ_ne_zero,  lt_def, i32_lit, reduceIte, P_isIn_eq, M_isIn_eq, M_goes_eq, or_false, false_or, or_true, true_or, and_true, true_and, and_false, false_and, not_true, not_false_eq_true, eq_self, if_true, if_false, not_or, not_and, Nat.not_lt, Nat.not_le, io_lt, io_le, io_eq, io_neg1, io_neg1', neg1_lt, io_le_neg1, io_lt_neg1, io_add, io_mul, io_pred, io_modE, natMod, io_sub, io_div, ix_io, gI_sI, gI_sA, gI_sL, gI_sJ, gI_sR, gI_sQ, gI_sD, gI_sN, gI_sz, gA_sI, gA_sA, gA_sL, gA_sJ, gA_sR, gA_sQ, gA_sD, gA_sN, gA_sz, gL_sI, gL_sA, gL_sL, gL_sJ, gL_sR, gL_sQ, gL_sD, gL_sN, gL_sz, gJ_sI, gJ_sA, gJ_sL, gJ_sJ, gJ_sR, gJ_sQ, gJ_sD, gJ_sN, gJ_sz, gR_sI, gR_sA, gR_sL, gR_sJ, gR_sR, gR_sQ, gR_sD, gR_sN, gR_sz, gQ_sI, gQ_sA, gQ_sL, gQ_sJ, gQ_sR, gQ_sQ, gQ_sD, gQ_sN, gQ_sz, gD_sI, gD_sA, gD_sL, gD_sJ, gD_sR, gD_sQ, gD_sD, gD_sN, gD_sz, sz_sI, sz_sA, sz_sL, sz_sJ, sz_sR, sz_sQ, sz_sD, sz_sN, sz_sz, e1, h1]
theorem M_alarm_t {F h n r c w : Nat} {s : St} (A : AL s h n r c w) {i : Nat} (hi : i < c) : f_M_isAlarm F s (io i) = some (io 1, s) := by
  have hc := A.1
  have e1 := A.2.2.2.2.2.1
  have h1 : ¬ c - 1 < i := by omega
  simp (disch := omega) only [f_M_isAlarm, Option.bind_some, Nat.reduceEqDiff, Nat.add_zero, Nat.zero_add, Nat.reduceLT, Nat.reduceLeDiff, Nat.reduceAdd, Nat.reduceSub, Nat.reduceMul, Nat.reduceDiv, Nat.lt_irrefl, Nat.not_lt_zero, Nat.zero_le, Nat.one_ne_zero, Nat.succ_ne_zero,  lt_def, i32_lit, reduceIte, P_isIn_eq, M_isIn_eq, M_goes_eq, or_false, false_or, or_true, true_or, and_true, true_and, and_false, false_and, not_true, not_false_eq_true, eq_self, if_true, if_false, not_or, not_and, Nat.not_lt, Nat.not_le, io_lt, io_le, io_eq, io_neg1, io_neg1', neg1_lt, io_le_neg1, io_lt_neg1, io_add, io_mul, io_pred, io_modE, natMod, io_sub, io_div, ix_io, gI_sI, gI_sA, gI_sL, gI_sJ, gI_sR, gI_sQ, gI_sD, gI_sN, gI_sz, gA_sI, gA_sA, gA_sL, gA_sJ, gA_sR, gA_sQ, gA_sD, gA_sN, gA_sz, gL_sI, gL_sA, gL_sL, gL_sJ, gL_sR, gL_sQ, gL_sD, gL_sN, gL_sz, gJ_sI, gJ_sA, gJ_sL, gJ_sJ, gJ_sR, gJ_sQ, gJ_sD, gJ_sN, gJ_sz, gR_sI, gR_sA, gR_sL, gR_sJ, gR_sR, gR_sQ, gR_sD, gR_sN, gR_sz, gQ_sI, gQ_sA, gQ_sL, gQ_sJ, gQ_sR, gQ_sQ, gQ_sD, gQ_sN, gQ_sz, gD_sI, gD_sA, gD_sL, gD_sJ, gD_sR, gD_sQ, gD_sD, gD_sN, gD_sz, sz_sI, sz_sA, sz_sL, sz_sJ, sz_sR, sz_sQ, sz_sD, sz_sN, sz_sz, e1, h1]
theorem M_alarm_f {F h n r c w : Nat} {s : St} (A : AL s h n r c w) {x : Int32} (hx : ¬ ∃ i, i < c ∧ x = io i) : f_M_isAlarm F s x = some (io 0, s) := by
  have hc := A.1
  have e1 := A.2.2.2.2.2.1
  by_cases h0 : x < io 0
  · simp (disch := omega) only [f_M_isAlarm, Option.bind_some, Nat.reduceEqDiff, Nat.add_zero, Nat.zero_add, Nat.reduceLT, Nat.reduceLeDiff, Nat.reduceAdd, Nat.reduceSub, Nat.reduceMul, Nat.reduceDiv, Nat.lt_irrefl, Nat.not_lt_zero, Nat.zero_le, Nat.one_ne_zero, Nat.succ_ne_zero,  lt_def, i32_lit, reduceIte, P_isIn_eq, M_isIn_eq, M_goes_eq, or_false, false_or, or_true, true_or, and_true, true_and, and_false, false_and, not_true, not_false_eq_true, eq_self, if_true, if_false, not_or, not_and, Nat.not_lt, Nat.not_le, h0, io_eq]
  · rw [i32_nlt] at h0
    obtain ⟨e, hl⟩ := io_of h0
    have h1 : c ≤ x.toNatClampNeg := Classical.byContradiction fun hn => hx ⟨_, by omega, e⟩
    rw [e]
    rcases Nat.eq_zero_or_pos c with rfl | hc0
    · have h2 : io 0 - io 1 = -io 1 := by decide
      simp (disch := omega) only [f_M_isAlarm, Option.bind_some, Nat.reduceEqDiff, Nat.add_zero, Nat.zero_add, Nat.reduceLT, Nat.reduceLeDiff, Nat.reduceAdd, Nat.reduceSub, Nat.reduceMul, Nat.reduceDiv, Nat.lt_irrefl, Nat.not_lt_zero, Nat.zero_le, Nat.one_ne_zero, Nat.succ_ne_zero,  lt_def, i32_lit, reduceIte, P_isIn_eq, M_isIn_eq, M_goes_eq, or_false, false_or, or_true, true_or, and_true, true_and, and_false, false_and, not_true, not_false_eq_true, eq_self, if_true, if_false, not_or, not_and, Nat.not_lt, Nat.not_le, e1, h2, neg1_lt, io_eq]
    · have h2 : c - 1 < x.toNatClampNeg := by omega
      simp (disch := omega) only [f_M_isAlarm, Option.bind_some, Nat.reduceEqDiff, Nat.add_zero, Nat.zero_add, Nat.reduceLT, Nat.reduceLeDiff, Nat.reduceAdd, Nat.reduceSub, Nat.reduceMul, Nat.reduceDiv, Nat.lt_irrefl, Nat.not_lt_zero, Nat.zero_le, Nat.one_ne_zero, Nat.succ_ne_zero,  lt_def, i32_lit, reduceIte, P_isIn_eq, M_isIn_eq, M_goes_eq, or_false, false_or, or_true, true_or, and_true, true_and, and_false, false_and, not_true, not_false_eq_true, eq_self, if_true, if_false, not_or, not_and, Nat.not_lt, Nat.not_le, io_lt, io_le, io_eq, io_neg1, io_neg1', neg1_lt, io_le_neg1, io_lt_neg1, io_add, io_mul, io_pred, io_modE, natMod, io_sub, io_div, ix_io, gI_sI, gI_sA, gI_sL, gI_sJ, gI_sR, gI_sQ, gI_sD, gI_sN, gI_sz, gA_sI, gA_sA, gA_sL, gA_sJ, gA_sR, gA_sQ, gA_sD, gA_sN, gA_sz, gL_sI, gL_sA, gL_sL, gL_sJ, gL_sR, gL_sQ, gL_sD, gL_sN, gL_sz, gJ_sI, gJ_sA, gJ_sL, gJ_sJ, gJ_sR, gJ_sQ, gJ_sD, gJ_sN, gJ_sz, gR_sI, gR_sA, gR_sL, gR_sJ, gR_sR, gR_sQ, gR_sD, gR_sN, gR_sz, gQ_sI, gQ_sA, gQ_sL, gQ_sJ, gQ_sR, gQ_sQ, gQ_sD, gQ_sN, gQ_sz, gD_sI, gD_sA, gD_sL, gD_sJ, gD_sR, gD_sQ, gD_sD, gD_sN, gD_sz, sz_sI, sz_sA, sz_sL, sz_sJ, sz_sR, sz_sQ, sz_sD, sz_sN, sz_sz, e1, h2]
theorem M_woken_eq {F h n r c w : Nat} {s : St} (hh : h ≤ 1000) (hn : n ≤ 8) (A : AL s h n r c w) {i : Nat} (hi : i < c) : ∃ q t p u a, q < r ∧ 1 ≤ t ∧ t ≤ h ∧ a ≤ 1 ∧ p ≤ 8 ∧ u ≤ 1000 ∧ gA s 19 i = io q ∧ gA s 20 i = io t ∧ gA s 23 i = io a ∧ gA s 68 i = io (enc q t p u a) ∧ f_M_wokenBy F s (io i) = some (dn p, s) ∧
    ((i < w ∧ 1 ≤ p ∧ p ≤ n ∧ u ≤ h ∧ gA s 21 i = io (p - 1) ∧ gA s 22 i = io u) ∨ (w ≤ i ∧ p = 0 ∧ u = 0 ∧ a = 0)) := by
  have hc := A.1
  have hr := A.2.1
  obtain ⟨q, t, p, u, a, h1, h2, h3, h4, h5, h6, h7, h8, h9⟩ := A.2.2.2.2.2.2.2 i hi
  have hp : p ≤ 8 := by omega
  have hu : u ≤ 1000 := by omega
  have hlt := enc_lt (a := a) (show q < 4 by omega) (show t ≤ 1000 by omega) hp hu h4
  have hep := enc_p (u := u) (a := a) (show q < 4 by omega) (show t ≤ 1000 by omega) hp
  refine ⟨q, t, p, u, a, h1, h2, h3, h4, hp, hu, h5, h6, h7, h8, ?_, h9⟩
  simp (disch := omega) only [f_M_wokenBy, Option.bind_some, Nat.reduceEqDiff, Nat.add_zero, Nat.zero_add, Nat.reduceLT, Nat.reduceLeDiff, Nat.reduceAdd, Nat.reduceSub, Nat.reduceMul, Nat.reduceDiv, Nat.lt_irrefl, Nat.not_lt_zero, Nat.zero_le, Nat.one_ne_zero, Nat.succ_ne_zero,  lt_def, i32_lit, reduceIte, P_isIn_eq, M_isIn_eq, M_goes_eq, or_false, false_or, or_true, true_or, and_true, true_and, and_false, false_and, not_true, not_false_eq_true, eq_self, if_true, if_false, not_or, not_and, Nat.not_lt, Nat.not_le, ix_io, h8, io_and, io_shr, and31, and3, and15, and1023, shr2, shr12, shr16, shr26, hep, dn_sub]
theorem op_alarms {F h n r c w : Nat} {s : St} (A : AL s h n r c w) : f_P_alarms F s = some (io c, s) ∧ f_M_alarms F s = some (io c, sI s 2551 (io 0)) ∧ Fr [2551] [] s (sI s 2551 (io 0)) := by
  have e1 := A.2.2.2.1
  have e2 := A.2.2.2.2.2.1
  refine ⟨by simp only [f_P_alarms, e1], ?_, Fr.rf.I (by decide)⟩
  simp (disch := omega) only [f_M_alarms, Option.bind_some, Nat.reduceEqDiff, Nat.add_zero, Nat.zero_add, Nat.reduceLT, Nat.reduceLeDiff, Nat.reduceAdd, Nat.reduceSub, Nat.reduceMul, Nat.reduceDiv, Nat.lt_irrefl, Nat.not_lt_zero, Nat.zero_le, Nat.one_ne_zero, Nat.succ_ne_zero,  lt_def, i32_lit, reduceIte, P_isIn_eq, M_isIn_eq, M_goes_eq, or_false, false_or, or_true, true_or, and_true, true_and, and_false, false_and, not_true, not_false_eq_true, eq_self, if_true, if_false, not_or, not_and, Nat.not_lt, Nat.not_le, io_lt, io_le, io_eq, io_neg1, io_neg1', neg1_lt, io_le_neg1, io_lt_neg1, io_add, io_mul, io_pred, io_modE, natMod, io_sub, io_div, ix_io, gI_sI, gI_sA, gI_sL, gI_sJ, gI_sR, gI_sQ, gI_sD, gI_sN, gI_sz, gA_sI, gA_sA, gA_sL, gA_sJ, gA_sR, gA_sQ, gA_sD, gA_sN, gA_sz, gL_sI, gL_sA, gL_sL, gL_sJ, gL_sR, gL_sQ, gL_sD, gL_sN, gL_sz, gJ_sI, gJ_sA, gJ_sL, gJ_sJ, gJ_sR, gJ_sQ, gJ_sD, gJ_sN, gJ_sz, gR_sI, gR_sA, gR_sL, gR_sJ, gR_sR, gR_sQ, gR_sD, gR_sN, gR_sz, gQ_sI, gQ_sA, gQ_sL, gQ_sJ, gQ_sR, gQ_sQ, gQ_sD, gQ_sN, gQ_sz, gD_sI, gD_sA, gD_sL, gD_sJ, gD_sR, gD_sQ, gD_sD, gD_sN, gD_sz, sz_sI, sz_sA, sz_sL, sz_sJ, sz_sR, sz_sQ, sz_sD, sz_sN, sz_sz, e2]
theorem waiting_loop {F h n r c w : Nat} {s : St} (hh : h ≤ 1000) (hn : n ≤ 8) (A : AL s h n r c w) : ∀ (k m i : Nat), i + k = c → k < m → f_M_waiting_b9 F m s (io (i - w)) (io i) = some (io (c - w), s) := by
  have hc := A.1
  have hw := A.2.2.1
  have e1 := A.2.2.2.2.2.1
  intro k
  induction k with
  | zero =>
    intro m i hi hm
    obtain ⟨m, rfl⟩ : ∃ m', m = m' + 1 := ⟨m - 1, by omega⟩
    have hi' : i = c := by omega
    subst hi'
    simp (disch := omega) only [f_M_waiting_b9, Option.bind_some, Nat.reduceEqDiff, Nat.add_zero, Nat.zero_add, Nat.reduceLT, Nat.reduceLeDiff, Nat.reduceAdd, Nat.reduceSub, Nat.reduceMul, Nat.reduceDiv, Nat.lt_irrefl, Nat.not_lt_zero, Nat.zero_le, Nat.one_ne_zero, Nat.succ_ne_zero,  lt_def, i32_lit, reduceIte, P_isIn_eq, M_isIn_eq, M_goes_eq, or_false, false_or, or_true, true_or, and_true, true_and, and_false, false_and, not_true, not_false_eq_true, eq_self, if_true, if_false, not_or, not_and, Nat.not_lt, Nat.not_le, io_lt, io_le, io_eq, io_neg1, io_neg1', neg1_lt, io_le_neg1, io_lt_neg1, io_add, io_mul, io_pred, io_modE, natMod, io_sub, io_div, ix_io, gI_sI, gI_sA, gI_sL, gI_sJ, gI_sR, gI_sQ, gI_sD, gI_sN, gI_sz, gA_sI, gA_sA, gA_sL, gA_sJ, gA_sR, gA_sQ, gA_sD, gA_sN, gA_sz, gL_sI, gL_sA, gL_sL, gL_sJ, gL_sR, gL_sQ, gL_sD, gL_sN, gL_sz, gJ_sI, gJ_sA, gJ_sL, gJ_sJ, gJ_sR, gJ_sQ, gJ_sD, gJ_sN, gJ_sz, gR_sI, gR_sA, gR_sL, gR_sJ, gR_sR, gR_sQ, gR_sD, gR_sN, gR_sz, gQ_sI, gQ_sA, gQ_sL, gQ_sJ, gQ_sR, gQ_sQ, gQ_sD, gQ_sN, gQ_sz, gD_sI, gD_sA, gD_sL, gD_sJ, gD_sR, gD_sQ, gD_sD, gD_sN, gD_sz, sz_sI, sz_sA, sz_sL, sz_sJ, sz_sR, sz_sQ, sz_sD, sz_sN, sz_sz, e1, Nat.le_refl]
  | succ k ih =>
    intro m i hi hm
    obtain ⟨m, rfl⟩ : ∃ m', m = m' + 1 := ⟨m - 1, by omega⟩
    have h1 : ¬ c ≤ i := by omega
    have h2 := ih m (i + 1) (by omega) (by omega)
    obtain ⟨q, t, p, u, a, -, -, -, -, hp8, -, -, -, -, -, hwk, hor⟩ := M_woken_eq (F := F) hh hn A (show i < c by omega)
    rcases hor with ⟨h3, h4, -⟩ | ⟨h3, h4, -⟩
    · have h5 : dn p = io (p - 1) := by unfold dn; rw [if_neg (by omega)]
      rw [show i + 1 - w = i - w by omega] at h2
      rw [h5] at hwk
      simp (disch := omega) only [f_M_waiting_b9, Option.bind_some, Nat.reduceEqDiff, Nat.add_zero, Nat.zero_add, Nat.reduceLT, Nat.reduceLeDiff, Nat.reduceAdd, Nat.reduceSub, Nat.reduceMul, Nat.reduceDiv, Nat.lt_irrefl, Nat.not_lt_zero, Nat.zero_le, Nat.one_ne_zero, Nat.succ_ne_zero,  lt_def, i32_lit, reduceIte, P_isIn_eq, M_isIn_eq, M_goes_eq, or_false, false_or, or_true, true_or, and_true, true_and, and_false, false_and, not_true, not_false_eq_true, eq_self, if_true, if_false, not_or, not_and, Nat.not_lt, Nat.not_le, e1, io_le, h1, hwk, io_neg1, io_add]
      exact h2
    · subst h4
      have h5 : dn 0 = -io 1 := by decide
      rw [show i + 1 - w = i - w + 1 by omega] at h2
      rw [h5] at hwk
      simp (disch := omega) only [f_M_waiting_b9, Option.bind_some, Nat.reduceEqDiff, Nat.add_zero, Nat.zero_add, Nat.reduceLT, Nat.reduceLeDiff, Nat.reduceAdd, Nat.reduceSub, Nat.reduceMul, Nat.reduceDiv, Nat.lt_irrefl, Nat.not_lt_zero, Nat.zero_le, Nat.one_ne_zero, Nat.succ_ne_zero,  lt_def, i32_lit, reduceIte, P_isIn_eq, M_isIn_eq, M_goes_eq, or_false, false_or, or_true, true_or, and_true, true_and, and_false, false_and, not_true, not_false_eq_true, eq_self, if_true, if_false, not_or, not_and, Nat.not_lt, Nat.not_le, e1, io_le, h1, hwk, io_add]
      exact h2
theorem op_waiting {F : Nat} (hF : 5000 ≤ F) {h n r c w : Nat} {s : St} (hh : h ≤ 1000) (hn : n ≤ 8) (A : AL s h n r c w) : f_P_waiting F s = some (io (c - w), s) ∧ f_M_waiting F s = some (io (c - w), sI s 2551 (io 0)) ∧ Fr [2551] [] s (sI s 2551 (io 0)) := by
  have e1 := A.2.2.2.1
  have e2 := A.2.2.2.2.1
  have hw := A.2.2.1
  have hc := A.1
  have f : Fr [2551] [] s (sI s 2551 (io 0)) := Fr.rf.I (by decide)
  refine ⟨by simp (disch := omega) only [f_P_waiting, e1, e2, io_sub], ?_, f⟩
  have hl := waiting_loop (F := F) hh hn (A.fr f) c F 0 (by omega) (by omega)
  rw [Nat.zero_sub] at hl
  simp (disch := omega) only [f_M_waiting, Option.bind_some, Nat.reduceEqDiff, Nat.add_zero, Nat.zero_add, Nat.reduceLT, Nat.reduceLeDiff, Nat.reduceAdd, Nat.reduceSub, Nat.reduceMul, Nat.reduceDiv, Nat.lt_irrefl, Nat.not_lt_zero, Nat.zero_le, Nat.one_ne_zero, Nat.succ_ne_zero,  lt_def, i32_lit, reduceIte, P_isIn_eq, M_isIn_eq, M_goes_eq, or_false, false_or, or_true, true_or, and_true, true_and, and_false, false_and, not_true, not_false_eq_true, eq_self, if_true, if_false, not_or, not_and, Nat.not_lt, Nat.not_le]
  exact hl
theorem op_alarm {F h n r c w : Nat} {s : St} (hh : h ≤ 1000) (hn : n ≤ 8) (A : AL s h n r c w) (x : Int32) : ∃ k s1, f_L_alarm F s x = some (k, s1) ∧ ∀ N, sz s1 ≤ N → ∃ b s2, f_M_alarm F (sz' s1 N) x = some (b, s2) ∧ gI s2 2551 = k ∧ (k = 0 → gJ s2 70 0 = b.toInt64) ∧ Fr [2551] [] s s2 := by
  have hz := szlt s
  have hc := A.1
  have hr := A.2.1
  by_cases hx : ∃ i, i < c ∧ x = io i
  · obtain ⟨i, hi, rfl⟩ := hx
    obtain ⟨q, t, p, u, a, h1, h2, h3, h4, hp, hu, h5, h6, h7, h8, -, -⟩ := M_woken_eq (F := F) hh hn A hi
    have hlt := enc_lt (show q < 4 by omega) (show t ≤ 1000 by omega) hp hu h4
    have heq := enc_q (t := t) (p := p) (u := u) (a := a) (show q < 4 by omega)
    have het := enc_t (p := p) (u := u) (a := a) (show q < 4 by omega) (show t ≤ 1000 by omega)
    refine ⟨io 0, sJ s 70 0 (io (10000 * q + t)).toInt64, ?_, fun N hN => ?_⟩
    · simp (disch := omega) only [f_L_alarm, f_P_alarm, Option.bind_some, Nat.reduceEqDiff, Nat.add_zero, Nat.zero_add, Nat.reduceLT, Nat.reduceLeDiff, Nat.reduceAdd, Nat.reduceSub, Nat.reduceMul, Nat.reduceDiv, Nat.lt_irrefl, Nat.not_lt_zero, Nat.zero_le, Nat.one_ne_zero, Nat.succ_ne_zero,  lt_def, i32_lit, reduceIte, P_isIn_eq, M_isIn_eq, M_goes_eq, or_false, false_or, or_true, true_or, and_true, true_and, and_false, false_and, not_true, not_false_eq_true, eq_self, if_true, if_false, not_or, not_and, Nat.not_lt, Nat.not_le, P_has_t A hi, io_eq, ix_io, h5, h6, io_mul, io_add]
    · have f0 : Fr [] [] s (sz' (sJ s 70 0 (io (10000 * q + t)).toInt64) N) := (Fr.rf.J).Z hN
      refine ⟨io (10000 * q + t), sI (sz' (sJ s 70 0 (io (10000 * q + t)).toInt64) N) 2551 (io 0), ?_, rfl, fun _ => rfl, ((Fr.rf.J).Z hN).I (by decide)⟩
      simp (disch := omega) only [f_M_alarm, f_M_alarm_b14, Option.bind_some, Nat.reduceEqDiff, Nat.add_zero, Nat.zero_add, Nat.reduceLT, Nat.reduceLeDiff, Nat.reduceAdd, Nat.reduceSub, Nat.reduceMul, Nat.reduceDiv, Nat.lt_irrefl, Nat.not_lt_zero, Nat.zero_le, Nat.one_ne_zero, Nat.succ_ne_zero,  lt_def, i32_lit, reduceIte, P_isIn_eq, M_isIn_eq, M_goes_eq, or_false, false_or, or_true, true_or, and_true, true_and, and_false, false_and, not_true, not_false_eq_true, eq_self, if_true, if_false, not_or, not_and, Nat.not_lt, Nat.not_le, M_alarm_t (A.fr f0) hi, io_eq, ix_io, gI_sI, gI_sA, gI_sL, gI_sJ, gI_sR, gI_sQ, gI_sD, gI_sN, gI_sz, gA_sI, gA_sA, gA_sL, gA_sJ, gA_sR, gA_sQ, gA_sD, gA_sN, gA_sz, gL_sI, gL_sA, gL_sL, gL_sJ, gL_sR, gL_sQ, gL_sD, gL_sN, gL_sz, gJ_sI, gJ_sA, gJ_sL, gJ_sJ, gJ_sR, gJ_sQ, gJ_sD, gJ_sN, gJ_sz, gR_sI, gR_sA, gR_sL, gR_sJ, gR_sR, gR_sQ, gR_sD, gR_sN, gR_sz, gQ_sI, gQ_sA, gQ_sL, gQ_sJ, gQ_sR, gQ_sQ, gQ_sD, gQ_sN, gQ_sz, gD_sI, gD_sA, gD_sL, gD_sJ, gD_sR, gD_sQ, gD_sD, gD_sN, gD_sz, sz_sI, sz_sA, sz_sL, sz_sJ, sz_sR, sz_sQ, sz_sD, sz_sN, sz_sz, h8, io_and, io_shr, and31, and3, and15, and1023, shr2, shr12, shr16, shr26, heq, het, io_mul, io_add]
  · refine ⟨io 1, s, ?_, fun N hN => ⟨io 0, sI (sz' s N) 2551 (io 1), ?_, rfl, fun h => absurd h (by decide), (Fr.rf.Z hN).I (by decide)⟩⟩
    · simp (disch := omega) only [f_L_alarm, f_P_alarm, Option.bind_some, Nat.reduceEqDiff, Nat.add_zero, Nat.zero_add, Nat.reduceLT, Nat.reduceLeDiff, Nat.reduceAdd, Nat.reduceSub, Nat.reduceMul, Nat.reduceDiv, Nat.lt_irrefl, Nat.not_lt_zero, Nat.zero_le, Nat.one_ne_zero, Nat.succ_ne_zero,  lt_def, i32_lit, reduceIte, P_isIn_eq, M_isIn_eq, M_goes_eq, or_false, false_or, or_true, true_or, and_true, true_and, and_false, false_and, not_true, not_false_eq_true, eq_self, if_true, if_false, not_or, not_and, Nat.not_lt, Nat.not_le, io_lt, io_le, io_eq, io_neg1, io_neg1', neg1_lt, io_le_neg1, io_lt_neg1, io_add, io_mul, io_pred, io_modE, natMod, io_sub, io_div, ix_io, gI_sI, gI_sA, gI_sL, gI_sJ, gI_sR, gI_sQ, gI_sD, gI_sN, gI_sz, gA_sI, gA_sA, gA_sL, gA_sJ, gA_sR, gA_sQ, gA_sD, gA_sN, gA_sz, gL_sI, gL_sA, gL_sL, gL_sJ, gL_sR, gL_sQ, gL_sD, gL_sN, gL_sz, gJ_sI, gJ_sA, gJ_sL, gJ_sJ, gJ_sR, gJ_sQ, gJ_sD, gJ_sN, gJ_sz, gR_sI, gR_sA, gR_sL, gR_sJ, gR_sR, gR_sQ, gR_sD, gR_sN, gR_sz, gQ_sI, gQ_sA, gQ_sL, gQ_sJ, gQ_sR, gQ_sQ, gQ_sD, gQ_sN, gQ_sz, gD_sI, gD_sA, gD_sL, gD_sJ, gD_sR, gD_sQ, gD_sD, gD_sN, gD_sz, sz_sI, sz_sA, sz_sL, sz_sJ, sz_sR, sz_sQ, sz_sD, sz_sN, sz_sz, P_has_f A hx, hz]
    · have f0 : Fr [] [] s (sz' s N) := Fr.rf.Z hN
      simp (disch := omega) only [f_M_alarm, f_M_alarm_b14, Option.bind_some, Nat.reduceEqDiff, Nat.add_zero, Nat.zero_add, Nat.reduceLT, Nat.reduceLeDiff, Nat.reduceAdd, Nat.reduceSub, Nat.reduceMul, Nat.reduceDiv, Nat.lt_irrefl, Nat.not_lt_zero, Nat.zero_le, Nat.one_ne_zero, Nat.succ_ne_zero,  lt_def, i32_lit, reduceIte, P_isIn_eq, M_isIn_eq, M_goes_eq, or_false, false_or, or_true, true_or, and_true, true_and, and_false, false_and, not_true, not_false_eq_true, eq_self, if_true, if_false, not_or, not_and, Nat.not_lt, Nat.not_le, M_alarm_f (A.fr f0) hx, io_eq]
theorem P_waits {F h n r c w : Nat} {s : St} (A : AL s h n r c w) {i : Nat} (hi : i < c) : f_Alarms_waits F s (io i) = some (if i < w then io 0 else io 1, s) := by
  have hc := A.1
  have hw := A.2.2.1
  have e1 := A.2.2.2.2.1
  by_cases h1 : i < w <;> simp (disch := omega) only [f_Alarms_waits, Option.bind_some, Nat.reduceEqDiff, Nat.add_zero, Nat.zero_add, Nat.reduceLT, Nat.reduceLeDiff, Nat.reduceAdd, Nat.reduceSub, Nat.reduceMul, Nat.reduceDiv, Nat.lt_irrefl, Nat.not_lt_zero, Nat.zero_le, Nat.one_ne_zero, Nat.succ_ne_zero,  lt_def, i32_lit, reduceIte, P_isIn_eq, M_isIn_eq, M_goes_eq, or_false, false_or, or_true, true_or, and_true, true_and, and_false, false_and, not_true, not_false_eq_true, eq_self, if_true, if_false, not_or, not_and, Nat.not_lt, Nat.not_le, e1, io_lt, h1]
theorem op_woken {F h n r c w : Nat} {s : St} (hh : h ≤ 1000) (hn : n ≤ 8) (A : AL s h n r c w) (x : Int32) : ∃ k s1, f_L_woken F s x = some (k, s1) ∧ ∀ N, sz s1 ≤ N → ∃ b s2, f_M_woken F (sz' s1 N) x = some (b, s2) ∧ gI s2 2551 = k ∧ (k = 0 → gJ s2 70 0 = b.toInt64) ∧ Fr [2551] [] s s2 := by
  have hz := szlt s
  have hc := A.1
  by_cases hx : ∃ i, i < c ∧ x = io i
  · obtain ⟨i, hi, rfl⟩ := hx
    obtain ⟨q, t, p, u, a, h1, h2, h3, h4, hp, hu, h5, h6, h7, h8, hwk, hor⟩ := M_woken_eq (F := F) hh hn A hi
    have hpw := P_waits (F := F) A hi
    refine ⟨io 0, sJ s 70 0 (dn p).toInt64, ?_, fun N hN => ?_⟩
    · rcases hor with ⟨h9, h10, h11, h12, h13, h14⟩ | ⟨h9, h10, -, -⟩
      · have h15 : dn p = io (p - 1) := by unfold dn; rw [if_neg (by omega)]
        rw [if_pos h9] at hpw
        simp (disch := omega) only [f_L_woken, f_P_woken, Option.bind_some, Nat.reduceEqDiff, Nat.add_zero, Nat.zero_add, Nat.reduceLT, Nat.reduceLeDiff, Nat.reduceAdd, Nat.reduceSub, Nat.reduceMul, Nat.reduceDiv, Nat.lt_irrefl, Nat.not_lt_zero, Nat.zero_le, Nat.one_ne_zero, Nat.succ_ne_zero,  lt_def, i32_lit, reduceIte, P_isIn_eq, M_isIn_eq, M_goes_eq, or_false, false_or, or_true, true_or, and_true, true_and, and_false, false_and, not_true, not_false_eq_true, eq_self, if_true, if_false, not_or, not_and, Nat.not_lt, Nat.not_le, P_has_t A hi, hpw, io_eq, ix_io, h13, h15]
      · rw [if_neg (by omega)] at hpw
        subst h10
        have h15 : dn 0 = -io 1 := by decide
        simp (disch := omega) only [f_L_woken, f_P_woken, Option.bind_some, Nat.reduceEqDiff, Nat.add_zero, Nat.zero_add, Nat.reduceLT, Nat.reduceLeDiff, Nat.reduceAdd, Nat.reduceSub, Nat.reduceMul, Nat.reduceDiv, Nat.lt_irrefl, Nat.not_lt_zero, Nat.zero_le, Nat.one_ne_zero, Nat.succ_ne_zero,  lt_def, i32_lit, reduceIte, P_isIn_eq, M_isIn_eq, M_goes_eq, or_false, false_or, or_true, true_or, and_true, true_and, and_false, false_and, not_true, not_false_eq_true, eq_self, if_true, if_false, not_or, not_and, Nat.not_lt, Nat.not_le, P_has_t A hi, hpw, io_eq, h15]
    · have f0 : Fr [] [] s (sz' (sJ s 70 0 (dn p).toInt64) N) := (Fr.rf.J).Z hN
      have f1 : Fr [2551] [] s (sI (sz' (sJ s 70 0 (dn p).toInt64) N) 2551 (io 0)) := ((Fr.rf.J).Z hN).I (by decide)
      obtain ⟨q', t', p', u', a', -, -, -, -, hp', hu', -, -, -, h8', hwk', -⟩ := M_woken_eq (F := F) hh hn (A.fr f1) hi
      have hpp : p' = p := by
        have h20 : gA (sI (sz' (sJ s 70 0 (dn p).toInt64) N) 2551 (io 0)) 68 = gA s 68 := rfl
        obtain ⟨q2, t2, p2, u2, a2, b1, b2, b3, b4, b5, b6, -, -, -, b8, -, -⟩ := M_woken_eq (F := F) hh hn A hi
        have e0 : f_M_wokenBy F (sI (sz' (sJ s 70 0 (dn p).toInt64) N) 2551 (io 0)) (io i) = some (dn p, sI (sz' (sJ s 70 0 (dn p).toInt64) N) 2551 (io 0)) := by
          have hlt := enc_lt (show q < 4 by have := A.2.1; omega) (show t ≤ 1000 by omega) hp hu h4
          have hep := enc_p (u := u) (a := a) (show q < 4 by have := A.2.1; omega) (show t ≤ 1000 by omega) hp
          simp (disch := omega) only [f_M_wokenBy, Option.bind_some, Nat.reduceEqDiff, Nat.add_zero, Nat.zero_add, Nat.reduceLT, Nat.reduceLeDiff, Nat.reduceAdd, Nat.reduceSub, Nat.reduceMul, Nat.reduceDiv, Nat.lt_irrefl, Nat.not_lt_zero, Nat.zero_le, Nat.one_ne_zero, Nat.succ_ne_zero,  lt_def, i32_lit, reduceIte, P_isIn_eq, M_isIn_eq, M_goes_eq, or_false, false_or, or_true, true_or, and_true, true_and, and_false, false_and, not_true, not_false_eq_true, eq_self, if_true, if_false, not_or, not_and, Nat.not_lt, Nat.not_le, ix_io, h20, h8, io_and, io_shr, and31, and3, and15, and1023, shr2, shr12, shr16, shr26, hep, dn_sub]
        rw [e0] at hwk'
        have e9 := (Prod.mk.inj (Option.some.inj hwk')).1
        unfold dn at e9
        by_cases c1 : p = 0
        · by_cases c2 : p' = 0
          · rw [c1, c2]
          · rw [if_pos c1, if_neg c2, io_neg1' (by omega)] at e9; exact e9.elim
        · by_cases c2 : p' = 0
          · rw [if_neg c1, if_pos c2, io_neg1 (by omega)] at e9; exact e9.elim
          · rw [if_neg c1, if_neg c2, io_eq (by omega) (by omega)] at e9; omega
      subst hpp
      refine ⟨dn p', sI (sz' (sJ s 70 0 (dn p').toInt64) N) 2551 (io 0), ?_, rfl, fun _ => rfl, f1⟩
      simp (disch := omega) only [f_M_woken, Option.bind_some, Nat.reduceEqDiff, Nat.add_zero, Nat.zero_add, Nat.reduceLT, Nat.reduceLeDiff, Nat.reduceAdd, Nat.reduceSub, Nat.reduceMul, Nat.reduceDiv, Nat.lt_irrefl, Nat.not_lt_zero, Nat.zero_le, Nat.one_ne_zero, Nat.succ_ne_zero,  lt_def, i32_lit, reduceIte, P_isIn_eq, M_isIn_eq, M_goes_eq, or_false, false_or, or_true, true_or, and_true, true_and, and_false, false_and, not_true, not_false_eq_true, eq_self, if_true, if_false, not_or, not_and, Nat.not_lt, Nat.not_le, M_alarm_t (A.fr f0) hi, io_eq, hwk']
  · refine ⟨io 1, s, ?_, fun N hN => ⟨io 0, sI (sz' s N) 2551 (io 1), ?_, rfl, fun h => absurd h (by decide), (Fr.rf.Z hN).I (by decide)⟩⟩
    · simp (disch := omega) only [f_L_woken, f_P_woken, Option.bind_some, Nat.reduceEqDiff, Nat.add_zero, Nat.zero_add, Nat.reduceLT, Nat.reduceLeDiff, Nat.reduceAdd, Nat.reduceSub, Nat.reduceMul, Nat.reduceDiv, Nat.lt_irrefl, Nat.not_lt_zero, Nat.zero_le, Nat.one_ne_zero, Nat.succ_ne_zero,  lt_def, i32_lit, reduceIte, P_isIn_eq, M_isIn_eq, M_goes_eq, or_false, false_or, or_true, true_or, and_true, true_and, and_false, false_and, not_true, not_false_eq_true, eq_self, if_true, if_false, not_or, not_and, Nat.not_lt, Nat.not_le, io_lt, io_le, io_eq, io_neg1, io_neg1', neg1_lt, io_le_neg1, io_lt_neg1, io_add, io_mul, io_pred, io_modE, natMod, io_sub, io_div, ix_io, gI_sI, gI_sA, gI_sL, gI_sJ, gI_sR, gI_sQ, gI_sD, gI_sN, gI_sz, gA_sI, gA_sA, gA_sL, gA_sJ, gA_sR, gA_sQ, gA_sD, gA_sN, gA_sz, gL_sI, gL_sA, gL_sL, gL_sJ, gL_sR, gL_sQ, gL_sD, gL_sN, gL_sz, gJ_sI, gJ_sA, gJ_sL, gJ_sJ, gJ_sR, gJ_sQ, gJ_sD, gJ_sN, gJ_sz, gR_sI, gR_sA, gR_sL, gR_sJ, gR_sR, gR_sQ, gR_sD, gR_sN, gR_sz, gQ_sI, gQ_sA, gQ_sL, gQ_sJ, gQ_sR, gQ_sQ, gQ_sD, gQ_sN, gQ_sz, gD_sI, gD_sA, gD_sL, gD_sJ, gD_sR, gD_sQ, gD_sD, gD_sN, gD_sz, sz_sI, sz_sA, sz_sL, sz_sJ, sz_sR, sz_sQ, sz_sD, sz_sN, sz_sz, P_has_f A hx, hz]
    · have f0 : Fr [] [] s (sz' s N) := Fr.rf.Z hN
      simp (disch := omega) only [f_M_woken, Option.bind_some, Nat.reduceEqDiff, Nat.add_zero, Nat.zero_add, Nat.reduceLT, Nat.reduceLeDiff, Nat.reduceAdd, Nat.reduceSub, Nat.reduceMul, Nat.reduceDiv, Nat.lt_irrefl, Nat.not_lt_zero, Nat.zero_le, Nat.one_ne_zero, Nat.succ_ne_zero,  lt_def, i32_lit, reduceIte, P_isIn_eq, M_isIn_eq, M_goes_eq, or_false, false_or, or_true, true_or, and_true, true_and, and_false, false_and, not_true, not_false_eq_true, eq_self, if_true, if_false, not_or, not_and, Nat.not_lt, Nat.not_le, M_alarm_f (A.fr f0) hx, io_eq]
