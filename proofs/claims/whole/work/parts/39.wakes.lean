theorem wokenBy_eq {F i q t p u a : Nat} {s : St} (hi : i < 4000) (h8 : gA s 68 i = io (enc q t p u a)) (hq : q < 4) (ht : t ≤ 1000) (hp : p ≤ 8) (hu : u ≤ 1000) (ha : a ≤ 1) : f_M_wokenBy F s (io i) = some (dn p, s) := by
  have hlt := enc_lt hq ht hp hu ha
  have hep := enc_p (u := u) (a := a) hq ht hp
  simp (disch := omega) only [f_M_wokenBy, Option.bind_some, Nat.reduceEqDiff, Nat.add_zero, Nat.zero_add, Nat.reduceLT, Nat.reduceLeDiff, Nat.reduceAdd, Nat.reduceSub, Nat.reduceMul, Nat.reduceDiv, Nat.lt_irrefl, Nat.not_lt_zero, Nat.zero_le, Nat.one_ne_zero, Nat.succ_ne_zero,  lt_def, i32_lit, reduceIte, P_isIn_eq, M_isIn_eq, M_goes_eq, or_false, false_or, or_true, true_or, and_true, true_and, and_false, false_and, not_true, not_false_eq_true, eq_self, if_true, if_false, not_or, not_and, Nat.not_lt, Nat.not_le, ix_io, h8, io_and, io_shr, and31, and3, and15, and1023, shr2, shr12, shr16, shr26, hep, dn_sub]
theorem dn_pos {p : Nat} (h : 1 ≤ p) : dn p = io (p - 1) := by unfold dn; rw [if_neg (by omega)]
theorem op_wokenAt {F h n r c w : Nat} {s : St} (hh : h ≤ 1000) (hn : n ≤ 8) (A : AL s h n r c w) (x : Int32) : ∃ k s1, f_L_wokenAt F s x = some (k, s1) ∧ ∀ N, sz s1 ≤ N → ∃ b s2, f_M_wokenAt F (sz' s1 N) x = some (b, s2) ∧ gI s2 2551 = k ∧ (k = 0 → gJ s2 70 0 = b.toInt64) ∧ Fr [2551] [] s s2 := by
  have hz := szlt s
  have hc := A.1
  have hr := A.2.1
  by_cases hx : ∃ i, i < c ∧ x = io i
  · obtain ⟨i, hi, rfl⟩ := hx
    obtain ⟨q, t, p, u, a, h1, h2, h3, h4, hp, hu, h5, h6, h7, h8, -, hor⟩ := M_woken_eq (F := F) hh hn A hi
    have hlt := enc_lt (show q < 4 by omega) (show t ≤ 1000 by omega) hp hu h4
    have heu := enc_u (a := a) (show q < 4 by omega) (show t ≤ 1000 by omega) hp hu
    have hpw := P_waits (F := F) A hi
    rcases hor with ⟨h9, h10, h11, h12, h13, h14⟩ | ⟨h9, h10, h11, h12⟩
    · rw [if_pos h9] at hpw
      refine ⟨io 0, sJ s 70 0 (io u).toInt64, ?_, fun N hN => ?_⟩
      · simp (disch := omega) only [f_L_wokenAt, f_P_wokenAt, Option.bind_some, Nat.reduceEqDiff, Nat.add_zero, Nat.zero_add, Nat.reduceLT, Nat.reduceLeDiff, Nat.reduceAdd, Nat.reduceSub, Nat.reduceMul, Nat.reduceDiv, Nat.lt_irrefl, Nat.not_lt_zero, Nat.zero_le, Nat.one_ne_zero, Nat.succ_ne_zero,  lt_def, i32_lit, reduceIte, P_isIn_eq, M_isIn_eq, M_goes_eq, or_false, false_or, or_true, true_or, and_true, true_and, and_false, false_and, not_true, not_false_eq_true, eq_self, if_true, if_false, not_or, not_and, Nat.not_lt, Nat.not_le, P_has_t A hi, hpw, io_eq, ix_io, h14]
      · have f0 : Fr [] [] s (sz' (sJ s 70 0 (io u).toInt64) N) := (Fr.rf.J).Z hN
        refine ⟨io u, sI (sz' (sJ s 70 0 (io u).toInt64) N) 2551 (io 0), ?_, rfl, fun _ => rfl, ((Fr.rf.J).Z hN).I (by decide)⟩
        have hwk := wokenBy_eq (F := F) (s := sz' (sJ s 70 0 (io u).toInt64) N) (show i < 4000 by omega) h8 (by omega) (by omega) hp hu h4
        simp (disch := omega) only [f_M_wokenAt, Option.bind_some, Nat.reduceEqDiff, Nat.add_zero, Nat.zero_add, Nat.reduceLT, Nat.reduceLeDiff, Nat.reduceAdd, Nat.reduceSub, Nat.reduceMul, Nat.reduceDiv, Nat.lt_irrefl, Nat.not_lt_zero, Nat.zero_le, Nat.one_ne_zero, Nat.succ_ne_zero,  lt_def, i32_lit, reduceIte, P_isIn_eq, M_isIn_eq, M_goes_eq, or_false, false_or, or_true, true_or, and_true, true_and, and_false, false_and, not_true, not_false_eq_true, eq_self, if_true, if_false, not_or, not_and, Nat.not_lt, Nat.not_le, M_alarm_t (A.fr f0) hi, io_eq, hwk, dn_pos h10, io_neg1, ix_io, gI_sI, gI_sA, gI_sL, gI_sJ, gI_sR, gI_sQ, gI_sD, gI_sN, gI_sz, gA_sI, gA_sA, gA_sL, gA_sJ, gA_sR, gA_sQ, gA_sD, gA_sN, gA_sz, gL_sI, gL_sA, gL_sL, gL_sJ, gL_sR, gL_sQ, gL_sD, gL_sN, gL_sz, gJ_sI, gJ_sA, gJ_sL, gJ_sJ, gJ_sR, gJ_sQ, gJ_sD, gJ_sN, gJ_sz, gR_sI, gR_sA, gR_sL, gR_sJ, gR_sR, gR_sQ, gR_sD, gR_sN, gR_sz, gQ_sI, gQ_sA, gQ_sL, gQ_sJ, gQ_sR, gQ_sQ, gQ_sD, gQ_sN, gQ_sz, gD_sI, gD_sA, gD_sL, gD_sJ, gD_sR, gD_sQ, gD_sD, gD_sN, gD_sz, sz_sI, sz_sA, sz_sL, sz_sJ, sz_sR, sz_sQ, sz_sD, sz_sN, sz_sz, h8, io_and, io_shr, and31, and3, and15, and1023, shr2, shr12, shr16, shr26, heu]
    · rw [if_neg (by omega)] at hpw
      refine ⟨io 2, s, ?_, fun N hN => ?_⟩
      · simp (disch := omega) only [f_L_wokenAt, f_P_wokenAt, Option.bind_some, Nat.reduceEqDiff, Nat.add_zero, Nat.zero_add, Nat.reduceLT, Nat.reduceLeDiff, Nat.reduceAdd, Nat.reduceSub, Nat.reduceMul, Nat.reduceDiv, Nat.lt_irrefl, Nat.not_lt_zero, Nat.zero_le, Nat.one_ne_zero, Nat.succ_ne_zero,  lt_def, i32_lit, reduceIte, P_isIn_eq, M_isIn_eq, M_goes_eq, or_false, false_or, or_true, true_or, and_true, true_and, and_false, false_and, not_true, not_false_eq_true, eq_self, if_true, if_false, not_or, not_and, Nat.not_lt, Nat.not_le, P_has_t A hi, hpw, io_eq, hz]
      · have f0 : Fr [] [] s (sz' s N) := Fr.rf.Z hN
        refine ⟨io 0, sI (sz' s N) 2551 (io 2), ?_, rfl, fun h => absurd h (by decide), (Fr.rf.Z hN).I (by decide)⟩
        have hwk := wokenBy_eq (F := F) (s := sz' s N) (show i < 4000 by omega) h8 (by omega) (by omega) hp hu h4
        have hd0 : dn p = -io 1 := by rw [h10]; rfl
        simp (disch := omega) only [f_M_wokenAt, Option.bind_some, Nat.reduceEqDiff, Nat.add_zero, Nat.zero_add, Nat.reduceLT, Nat.reduceLeDiff, Nat.reduceAdd, Nat.reduceSub, Nat.reduceMul, Nat.reduceDiv, Nat.lt_irrefl, Nat.not_lt_zero, Nat.zero_le, Nat.one_ne_zero, Nat.succ_ne_zero,  lt_def, i32_lit, reduceIte, P_isIn_eq, M_isIn_eq, M_goes_eq, or_false, false_or, or_true, true_or, and_true, true_and, and_false, false_and, not_true, not_false_eq_true, eq_self, if_true, if_false, not_or, not_and, Nat.not_lt, Nat.not_le, M_alarm_t (A.fr f0) hi, io_eq, hwk, hd0]
  · refine ⟨io 1, s, ?_, fun N hN => ⟨io 0, sI (sz' s N) 2551 (io 1), ?_, rfl, fun h => absurd h (by decide), (Fr.rf.Z hN).I (by decide)⟩⟩
    · simp (disch := omega) only [f_L_wokenAt, f_P_wokenAt, Option.bind_some, Nat.reduceEqDiff, Nat.add_zero, Nat.zero_add, Nat.reduceLT, Nat.reduceLeDiff, Nat.reduceAdd, Nat.reduceSub, Nat.reduceMul, Nat.reduceDiv, Nat.lt_irrefl, Nat.not_lt_zero, Nat.zero_le, Nat.one_ne_zero, Nat.succ_ne_zero,  lt_def, i32_lit, reduceIte, P_isIn_eq, M_isIn_eq, M_goes_eq, or_false, false_or, or_true, true_or, and_true, true_and, and_false, false_and, not_true, not_false_eq_true, eq_self, if_true, if_false, not_or, not_and, Nat.not_lt, Nat.not_le, io_lt, io_le, io_eq, io_neg1, io_neg1', neg1_lt, io_le_neg1, io_lt_neg1, io_add, io_mul, io_pred, io_modE, natMod, io_sub, io_div, ix_io, gI_sI, gI_sA, gI_sL, gI_sJ, gI_sR, gI_sQ, gI_sD, gI_sN, gI_sz, gA_sI, gA_sA, gA_sL, gA_sJ, gA_sR, gA_sQ, gA_sD, gA_sN, gA_sz, gL_sI, gL_sA, gL_sL, gL_sJ, gL_sR, gL_sQ, gL_sD, gL_sN, gL_sz, gJ_sI, gJ_sA, gJ_sL, gJ_sJ, gJ_sR, gJ_sQ, gJ_sD, gJ_sN, gJ_sz, gR_sI, gR_sA, gR_sL, gR_sJ, gR_sR, gR_sQ, gR_sD, gR_sN, gR_sz, gQ_sI, gQ_sA, gQ_sL, gQ_sJ, gQ_sR, gQ_sQ, gQ_sD, gQ_sN, gQ_sz, gD_sI, gD_sA, gD_sL, gD_sJ, gD_sR, gD_sQ, gD_sD, gD_sN, gD_sz, sz_sI, sz_sA, sz_sL, sz_sJ, sz_sR, sz_sQ, sz_sD, sz_sN, sz_sz, P_has_f A hx, hz]
    · have f0 : Fr [] [] s (sz' s N) := Fr.rf.Z hN
      simp (disch := omega) only [f_M_wokenAt, Option.bind_some, Nat.reduceEqDiff, Nat.add_zero, Nat.zero_add, Nat.reduceLT, Nat.reduceLeDiff, Nat.reduceAdd, Nat.reduceSub, Nat.reduceMul, Nat.reduceDiv, Nat.lt_irrefl, Nat.not_lt_zero, Nat.zero_le, Nat.one_ne_zero, Nat.succ_ne_zero,  lt_def, i32_lit, reduceIte, P_isIn_eq, M_isIn_eq, M_goes_eq, or_false, false_or, or_true, true_or, and_true, true_and, and_false, false_and, not_true, not_false_eq_true, eq_self, if_true, if_false, not_or, not_and, Nat.not_lt, Nat.not_le, M_alarm_f (A.fr f0) hx, io_eq]
/-! an alarm's row changes: woken, answered, new -/
theorem or_add (x y i : Nat) (h : x < 2 ^ i) : x ||| y <<< i = x + y * 2 ^ i := by
  rw [Nat.or_comm, ← Nat.shiftLeft_add_eq_or_of_lt h, Nat.shiftLeft_eq, Nat.add_comm]
theorem wake_bits {q t p h : Nat} (hq : q < 4) (ht : t ≤ 1000) (hp : p + 1 ≤ 8) (hh : h ≤ 1000) : enc q t 0 0 0 ||| ((p + 1) <<< 12 ||| h <<< 16) = enc q t (p + 1) h 0 := by
  have h1 : (p + 1) <<< 12 < 2 ^ 16 := by rw [Nat.shiftLeft_eq]; omega
  have h2 : (p + 1) <<< 12 ||| h <<< 16 = (p + 1) <<< 12 + h * 65536 := or_add _ _ 16 h1
  have h3 : (p + 1) <<< 12 + h * 65536 = (p + 1 + 16 * h) <<< 12 := by rw [Nat.shiftLeft_eq, Nat.shiftLeft_eq]; omega
  rw [h2, h3, or_add _ _ 12 (by unfold enc; omega)]
  unfold enc
  omega
theorem new_bits {q h : Nat} (hq : q < 4) : q ||| h <<< 2 = enc q h 0 0 0 := by
  rw [or_add _ _ 2 (by omega)]
  unfold enc
  omega
theorem ans_bits {q t p u : Nat} (hq : q < 4) (ht : t ≤ 1000) (hp : p ≤ 8) (hu : u ≤ 1000) : enc q t p u 0 ||| 67108864 = enc q t p u 1 := by
  have h1 : (67108864 : Nat) = 1 <<< 26 := by decide
  rw [h1, or_add _ _ 26 (by unfold enc; omega)]
  unfold enc
  omega
theorem wakes_eq {F i q t p h : Nat} {s : St} (hi : i < 4000) (h8 : gA s 68 i = io (enc q t 0 0 0)) (hH : gI s 2526 = io h) (hq : q < 4) (ht : t ≤ 1000) (hp : p + 1 ≤ 8) (hh : h ≤ 1000) : f_M_wakes F s (io i) (io p) = some (sA s 68 i (io (enc q t (p + 1) h 0))) := by
  have e := wake_bits hq ht hp hh
  simp (disch := omega) only [f_M_wakes, Option.bind_some, Nat.reduceEqDiff, Nat.add_zero, Nat.zero_add, Nat.reduceLT, Nat.reduceLeDiff, Nat.reduceAdd, Nat.reduceSub, Nat.reduceMul, Nat.reduceDiv, Nat.lt_irrefl, Nat.not_lt_zero, Nat.zero_le, Nat.one_ne_zero, Nat.succ_ne_zero,  lt_def, i32_lit, reduceIte, P_isIn_eq, M_isIn_eq, M_goes_eq, or_false, false_or, or_true, true_or, and_true, true_and, and_false, false_and, not_true, not_false_eq_true, eq_self, if_true, if_false, not_or, not_and, Nat.not_lt, Nat.not_le, ix_io, h8, hH, io_add, io_and, and31, io_shl, io_or, e]
/-! the class wakes: all from w on -/
def wk (s : St) (w c : Nat) (x y : Int32) : Nat → St
  | 0 => sI s 1158 (io c)
  | k + 1 => wk (sA (sA s 21 w x) 22 w y) (w + 1) c x y k
theorem wk_loop {F c : Nat} {x y : Int32} (hc : c ≤ 4000) : ∀ (k m w : Nat) (s : St), gI s 1157 = io c → w + k = c → k < m → f_Alarms_wakeAll_b15 F m s x y (io w) = some (wk s w c x y k) := by
  intro k
  induction k with
  | zero =>
    intro m w s e1 hw hm
    obtain ⟨m, rfl⟩ : ∃ m', m = m' + 1 := ⟨m - 1, by omega⟩
    have hw' : w = c := by omega
    subst hw'
    simp (disch := omega) only [f_Alarms_wakeAll_b15, Option.bind_some, Nat.reduceEqDiff, Nat.add_zero, Nat.zero_add, Nat.reduceLT, Nat.reduceLeDiff, Nat.reduceAdd, Nat.reduceSub, Nat.reduceMul, Nat.reduceDiv, Nat.lt_irrefl, Nat.not_lt_zero, Nat.zero_le, Nat.one_ne_zero, Nat.succ_ne_zero,  lt_def, i32_lit, reduceIte, P_isIn_eq, M_isIn_eq, M_goes_eq, or_false, false_or, or_true, true_or, and_true, true_and, and_false, false_and, not_true, not_false_eq_true, eq_self, if_true, if_false, not_or, not_and, Nat.not_lt, Nat.not_le, io_le, e1, Nat.le_refl, wk]
  | succ k ih =>
    intro m w s e1 hw hm
    obtain ⟨m, rfl⟩ : ∃ m', m = m' + 1 := ⟨m - 1, by omega⟩
    have h1 : ¬ c ≤ w := by omega
    have h2 : ¬ 4000 ≤ w := by omega
    have h3 := ih m (w + 1) (sA (sA s 21 w x) 22 w y) e1 (by omega) (by omega)
    simp (disch := omega) only [f_Alarms_wakeAll_b15, Option.bind_some, Nat.reduceEqDiff, Nat.add_zero, Nat.zero_add, Nat.reduceLT, Nat.reduceLeDiff, Nat.reduceAdd, Nat.reduceSub, Nat.reduceMul, Nat.reduceDiv, Nat.lt_irrefl, Nat.not_lt_zero, Nat.zero_le, Nat.one_ne_zero, Nat.succ_ne_zero,  lt_def, i32_lit, reduceIte, P_isIn_eq, M_isIn_eq, M_goes_eq, or_false, false_or, or_true, true_or, and_true, true_and, and_false, false_and, not_true, not_false_eq_true, eq_self, if_true, if_false, not_or, not_and, Nat.not_lt, Nat.not_le, io_le, e1, h1, h2, ix_io, io_add]
    exact h3
theorem wk_fr {c : Nat} {x y : Int32} : ∀ (k w : Nat) (s : St), Fr [1158] [21, 22] s (wk s w c x y k) := by
  intro k
  induction k with
  | zero => intro w s; exact Fr.rf.I (by decide)
  | succ k ih => intro w s; exact ((Fr.rf.A (by decide)).A (by decide)).trans (ih (w + 1) _)
theorem wk_at {c : Nat} {x y : Int32} : ∀ (k w : Nat) (s : St), gI (wk s w c x y k) 1158 = io c ∧ (∀ i, gA (wk s w c x y k) 21 i = if w ≤ i ∧ i < w + k then x else gA s 21 i) ∧ (∀ i, gA (wk s w c x y k) 22 i = if w ≤ i ∧ i < w + k then y else gA s 22 i) := by
  intro k
  induction k with
  | zero =>
    intro w s
    refine ⟨rfl, fun i => ?_, fun i => ?_⟩
    · rw [if_neg (by omega)]; rfl
    · rw [if_neg (by omega)]; rfl
  | succ k ih =>
    intro w s
    obtain ⟨a1, a2, a3⟩ := ih (w + 1) (sA (sA s 21 w x) 22 w y)
    refine ⟨a1, fun i => ?_, fun i => ?_⟩
    · show gA (wk (sA (sA s 21 w x) 22 w y) (w + 1) c x y k) 21 i = _
      rw [a2 i]
      simp only [gI_sI, gI_sA, gI_sL, gI_sJ, gI_sR, gI_sQ, gI_sD, gI_sN, gI_sz, gA_sI, gA_sA, gA_sL, gA_sJ, gA_sR, gA_sQ, gA_sD, gA_sN, gA_sz, gL_sI, gL_sA, gL_sL, gL_sJ, gL_sR, gL_sQ, gL_sD, gL_sN, gL_sz, gJ_sI, gJ_sA, gJ_sL, gJ_sJ, gJ_sR, gJ_sQ, gJ_sD, gJ_sN, gJ_sz, gR_sI, gR_sA, gR_sL, gR_sJ, gR_sR, gR_sQ, gR_sD, gR_sN, gR_sz, gQ_sI, gQ_sA, gQ_sL, gQ_sJ, gQ_sR, gQ_sQ, gQ_sD, gQ_sN, gQ_sz, gD_sI, gD_sA, gD_sL, gD_sJ, gD_sR, gD_sQ, gD_sD, gD_sN, gD_sz, sz_sI, sz_sA, sz_sL, sz_sJ, sz_sR, sz_sQ, sz_sD, sz_sN, sz_sz, reduceIte, Nat.reduceEqDiff]
      by_cases h1 : i = w
      · rw [if_neg (by omega), if_pos h1, if_pos (by omega)]
      · by_cases h2 : w + 1 ≤ i ∧ i < w + 1 + k
        · rw [if_pos h2, if_pos (by omega)]
        · rw [if_neg h2, if_neg h1, if_neg (by omega)]
    · show gA (wk (sA (sA s 21 w x) 22 w y) (w + 1) c x y k) 22 i = _
      rw [a3 i]
      simp only [gI_sI, gI_sA, gI_sL, gI_sJ, gI_sR, gI_sQ, gI_sD, gI_sN, gI_sz, gA_sI, gA_sA, gA_sL, gA_sJ, gA_sR, gA_sQ, gA_sD, gA_sN, gA_sz, gL_sI, gL_sA, gL_sL, gL_sJ, gL_sR, gL_sQ, gL_sD, gL_sN, gL_sz, gJ_sI, gJ_sA, gJ_sL, gJ_sJ, gJ_sR, gJ_sQ, gJ_sD, gJ_sN, gJ_sz, gR_sI, gR_sA, gR_sL, gR_sJ, gR_sR, gR_sQ, gR_sD, gR_sN, gR_sz, gQ_sI, gQ_sA, gQ_sL, gQ_sJ, gQ_sR, gQ_sQ, gQ_sD, gQ_sN, gQ_sz, gD_sI, gD_sA, gD_sL, gD_sJ, gD_sR, gD_sQ, gD_sD, gD_sN, gD_sz, sz_sI, sz_sA, sz_sL, sz_sJ, sz_sR, sz_sQ, sz_sD, sz_sN, sz_sz, reduceIte, Nat.reduceEqDiff]
      by_cases h1 : i = w
      · rw [if_neg (by omega), if_pos h1, if_pos (by omega)]
      · by_cases h2 : w + 1 ≤ i ∧ i < w + 1 + k
        · rw [if_pos h2, if_pos (by omega)]
        · rw [if_neg h2, if_neg h1, if_neg (by omega)]
theorem wakeAll_no {F : Nat} {s : St} {y : Int32} : f_Alarms_wakeAll F s (-io 1) y = some s := by
  simp (disch := omega) only [f_Alarms_wakeAll, Option.bind_some, Nat.reduceEqDiff, Nat.add_zero, Nat.zero_add, Nat.reduceLT, Nat.reduceLeDiff, Nat.reduceAdd, Nat.reduceSub, Nat.reduceMul, Nat.reduceDiv, Nat.lt_irrefl, Nat.not_lt_zero, Nat.zero_le, Nat.one_ne_zero, Nat.succ_ne_zero,  lt_def, i32_lit, reduceIte, P_isIn_eq, M_isIn_eq, M_goes_eq, or_false, false_or, or_true, true_or, and_true, true_and, and_false, false_and, not_true, not_false_eq_true, eq_self, if_true, if_false, not_or, not_and, Nat.not_lt, Nat.not_le]
theorem wakeAll_eq {F c w p : Nat} (hF : 5000 ≤ F) {s : St} {y : Int32} (hc : c ≤ 4000) (hw : w ≤ c) (hp : p < 8) (e1 : gI s 1157 = io c) (e2 : gI s 1158 = io w) : f_Alarms_wakeAll F s (io p) y = some (wk s w c (io p) y (c - w)) := by
  have h1 := wk_loop (F := F) (x := io p) (y := y) hc (c - w) F w s e1 (by omega) (by omega)
  have h2 : (if io 0 < io w then io w else io 0) = io w := by
    by_cases h0 : w = 0
    · subst h0; rw [ite_self]
    · rw [if_pos (by rw [io_lt (by omega) (by omega)]; omega)]
  simp (disch := omega) only [f_Alarms_wakeAll, Option.bind_some, Nat.reduceEqDiff, Nat.add_zero, Nat.zero_add, Nat.reduceLT, Nat.reduceLeDiff, Nat.reduceAdd, Nat.reduceSub, Nat.reduceMul, Nat.reduceDiv, Nat.lt_irrefl, Nat.not_lt_zero, Nat.zero_le, Nat.one_ne_zero, Nat.succ_ne_zero,  lt_def, i32_lit, reduceIte, P_isIn_eq, M_isIn_eq, M_goes_eq, or_false, false_or, or_true, true_or, and_true, true_and, and_false, false_and, not_true, not_false_eq_true, eq_self, if_true, if_false, not_or, not_and, Nat.not_lt, Nat.not_le, io_neg1, e2, h2]
  exact h1
/-! the model wakes: all that wait -/
def wkm (s : St) (h p w : Nat) : Nat → St
  | 0 => s
  | k + 1 => wkm (sA s 68 w (io (cl (gA s 68 w) + 4096 * (p + 1) + 65536 * h))) h p (w + 1) k
theorem wkm_fr {h p : Nat} : ∀ (k w : Nat) (s : St), Fr [] [68] s (wkm s h p w k) := by
  intro k
  induction k with
  | zero => intro w s; exact Fr.rf
  | succ k ih => intro w s; exact (Fr.rf.A (by decide)).trans (ih (w + 1) _)
theorem wkm_at {h p : Nat} : ∀ (k w : Nat) (s : St) (i : Nat), gA (wkm s h p w k) 68 i = if w ≤ i ∧ i < w + k then io (cl (gA s 68 i) + 4096 * (p + 1) + 65536 * h) else gA s 68 i := by
  intro k
  induction k with
  | zero => intro w s i; rw [if_neg (by omega)]; rfl
  | succ k ih =>
    intro w s i
    show gA (wkm (sA s 68 w (io (cl (gA s 68 w) + 4096 * (p + 1) + 65536 * h))) h p (w + 1) k) 68 i = _
    rw [ih (w + 1) _ i]
    simp only [gI_sI, gI_sA, gI_sL, gI_sJ, gI_sR, gI_sQ, gI_sD, gI_sN, gI_sz, gA_sI, gA_sA, gA_sL, gA_sJ, gA_sR, gA_sQ, gA_sD, gA_sN, gA_sz, gL_sI, gL_sA, gL_sL, gL_sJ, gL_sR, gL_sQ, gL_sD, gL_sN, gL_sz, gJ_sI, gJ_sA, gJ_sL, gJ_sJ, gJ_sR, gJ_sQ, gJ_sD, gJ_sN, gJ_sz, gR_sI, gR_sA, gR_sL, gR_sJ, gR_sR, gR_sQ, gR_sD, gR_sN, gR_sz, gQ_sI, gQ_sA, gQ_sL, gQ_sJ, gQ_sR, gQ_sQ, gQ_sD, gQ_sN, gQ_sz, gD_sI, gD_sA, gD_sL, gD_sJ, gD_sR, gD_sQ, gD_sD, gD_sN, gD_sz, sz_sI, sz_sA, sz_sL, sz_sJ, sz_sR, sz_sQ, sz_sD, sz_sN, sz_sz, reduceIte, Nat.reduceEqDiff]
    by_cases h1 : i = w
    · subst h1
      rw [if_neg (by omega), if_pos rfl, if_pos (by omega)]
    · by_cases h2 : w + 1 ≤ i ∧ i < w + 1 + k
      · rw [if_pos h2, if_neg h1, if_pos (show w ≤ i ∧ i < w + (k + 1) by omega)]
      · rw [if_neg h2, if_neg h1, if_neg (show ¬ (w ≤ i ∧ i < w + (k + 1)) by omega)]
