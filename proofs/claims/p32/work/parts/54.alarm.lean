/-! alarms -/
section WA
variable {F Z : Nat} {s : St} {w : WD}
theorem W_has (H : CV s w) {i : Nat} (hi : i < yc (vy w)) : f_Alarms_has F s (io i) = some (io 1, s) := by
  obtain ⟨c1, c2, c3, c4⟩ := H.c
  have h1 : ¬ yc (vy w) ≤ i := by omega
  have h2 : ¬ 4000 ≤ i := by omega
  simp (disch := omega) only [f_Alarms_has, Option.bind_some, Nat.reduceEqDiff, Nat.add_zero, Nat.zero_add, Nat.reduceLT, Nat.reduceLeDiff, Nat.reduceAdd, Nat.reduceSub, Nat.reduceMul, Nat.reduceDiv, Nat.lt_irrefl, Nat.not_lt_zero, Nat.zero_le, Nat.one_ne_zero, Nat.succ_ne_zero,  lt_def, i32_lit, reduceIte, P_isIn_eq, or_false, false_or, or_true, true_or, and_true, true_and, and_false, false_and, not_true, not_false_eq_true, eq_self, if_true, if_false, not_or, not_and, Nat.not_lt, Nat.not_le, io_lt, io_le, io_eq, io_neg1, io_neg1', neg1_lt, io_le_neg1, io_lt_neg1, io_add, io_mul, io_pred, io_modE, natMod, io_sub, io_div, ix_io, gI_sI, gI_sA, gI_sL, gI_sJ, gI_sR, gI_sQ, gI_sD, gI_sN, gI_sz, gA_sI, gA_sA, gA_sL, gA_sJ, gA_sR, gA_sQ, gA_sD, gA_sN, gA_sz, gL_sI, gL_sA, gL_sL, gL_sJ, gL_sR, gL_sQ, gL_sD, gL_sN, gL_sz, gJ_sI, gJ_sA, gJ_sL, gJ_sJ, gJ_sR, gJ_sQ, gJ_sD, gJ_sN, gJ_sz, gR_sI, gR_sA, gR_sL, gR_sJ, gR_sR, gR_sQ, gR_sD, gR_sN, gR_sz, gQ_sI, gQ_sA, gQ_sL, gQ_sJ, gQ_sR, gQ_sQ, gQ_sD, gQ_sN, gQ_sz, gD_sI, gD_sA, gD_sL, gD_sJ, gD_sR, gD_sQ, gD_sD, gD_sN, gD_sz, sz_sI, sz_sA, sz_sL, sz_sJ, sz_sR, sz_sQ, sz_sD, sz_sN, sz_sz, c1, h1, h2]
theorem W_has_x (H : CV s w) {x : Int32} (hx : ¬ ∃ i, i < yc (vy w) ∧ x = io i) : f_Alarms_has F s x = some (io 0, s) := by
  obtain ⟨c1, c2, c3, c4⟩ := H.c
  by_cases h0 : x < io 0
  · simp (disch := omega) only [f_Alarms_has, Option.bind_some, Nat.reduceEqDiff, Nat.add_zero, Nat.zero_add, Nat.reduceLT, Nat.reduceLeDiff, Nat.reduceAdd, Nat.reduceSub, Nat.reduceMul, Nat.reduceDiv, Nat.lt_irrefl, Nat.not_lt_zero, Nat.zero_le, Nat.one_ne_zero, Nat.succ_ne_zero,  lt_def, i32_lit, reduceIte, P_isIn_eq, or_false, false_or, or_true, true_or, and_true, true_and, and_false, false_and, not_true, not_false_eq_true, eq_self, if_true, if_false, not_or, not_and, Nat.not_lt, Nat.not_le, h0]
  · rw [i32_nlt] at h0
    obtain ⟨e, hl⟩ := io_of h0
    have h1 : yc (vy w) ≤ x.toNatClampNeg := Classical.byContradiction fun hn => hx ⟨_, by omega, e⟩
    rw [e]
    simp (disch := omega) only [f_Alarms_has, Option.bind_some, Nat.reduceEqDiff, Nat.add_zero, Nat.zero_add, Nat.reduceLT, Nat.reduceLeDiff, Nat.reduceAdd, Nat.reduceSub, Nat.reduceMul, Nat.reduceDiv, Nat.lt_irrefl, Nat.not_lt_zero, Nat.zero_le, Nat.one_ne_zero, Nat.succ_ne_zero,  lt_def, i32_lit, reduceIte, P_isIn_eq, or_false, false_or, or_true, true_or, and_true, true_and, and_false, false_and, not_true, not_false_eq_true, eq_self, if_true, if_false, not_or, not_and, Nat.not_lt, Nat.not_le, io_lt, io_le, io_eq, io_neg1, io_neg1', neg1_lt, io_le_neg1, io_lt_neg1, io_add, io_mul, io_pred, io_modE, natMod, io_sub, io_div, ix_io, gI_sI, gI_sA, gI_sL, gI_sJ, gI_sR, gI_sQ, gI_sD, gI_sN, gI_sz, gA_sI, gA_sA, gA_sL, gA_sJ, gA_sR, gA_sQ, gA_sD, gA_sN, gA_sz, gL_sI, gL_sA, gL_sL, gL_sJ, gL_sR, gL_sQ, gL_sD, gL_sN, gL_sz, gJ_sI, gJ_sA, gJ_sL, gJ_sJ, gJ_sR, gJ_sQ, gJ_sD, gJ_sN, gJ_sz, gR_sI, gR_sA, gR_sL, gR_sJ, gR_sR, gR_sQ, gR_sD, gR_sN, gR_sz, gQ_sI, gQ_sA, gQ_sL, gQ_sJ, gQ_sR, gQ_sQ, gQ_sD, gQ_sN, gQ_sz, gD_sI, gD_sA, gD_sL, gD_sJ, gD_sR, gD_sQ, gD_sD, gD_sN, gD_sz, sz_sI, sz_sA, sz_sL, sz_sJ, sz_sR, sz_sQ, sz_sD, sz_sN, sz_sz, c1, h1]
theorem W_waits (H : CV s w) {i : Nat} (hi : i < yc (vy w)) : f_Alarms_waits F s (io i) = some (if i < yw (vy w) then io 0 else io 1, s) := by
  obtain ⟨c1, c2, c3, c4⟩ := H.c
  by_cases h : i < yw (vy w)
  · simp (disch := omega) only [f_Alarms_waits, Option.bind_some, Nat.reduceEqDiff, Nat.add_zero, Nat.zero_add, Nat.reduceLT, Nat.reduceLeDiff, Nat.reduceAdd, Nat.reduceSub, Nat.reduceMul, Nat.reduceDiv, Nat.lt_irrefl, Nat.not_lt_zero, Nat.zero_le, Nat.one_ne_zero, Nat.succ_ne_zero,  lt_def, i32_lit, reduceIte, P_isIn_eq, or_false, false_or, or_true, true_or, and_true, true_and, and_false, false_and, not_true, not_false_eq_true, eq_self, if_true, if_false, not_or, not_and, Nat.not_lt, Nat.not_le, io_lt, io_le, io_eq, io_neg1, io_neg1', neg1_lt, io_le_neg1, io_lt_neg1, io_add, io_mul, io_pred, io_modE, natMod, io_sub, io_div, ix_io, gI_sI, gI_sA, gI_sL, gI_sJ, gI_sR, gI_sQ, gI_sD, gI_sN, gI_sz, gA_sI, gA_sA, gA_sL, gA_sJ, gA_sR, gA_sQ, gA_sD, gA_sN, gA_sz, gL_sI, gL_sA, gL_sL, gL_sJ, gL_sR, gL_sQ, gL_sD, gL_sN, gL_sz, gJ_sI, gJ_sA, gJ_sL, gJ_sJ, gJ_sR, gJ_sQ, gJ_sD, gJ_sN, gJ_sz, gR_sI, gR_sA, gR_sL, gR_sJ, gR_sR, gR_sQ, gR_sD, gR_sN, gR_sz, gQ_sI, gQ_sA, gQ_sL, gQ_sJ, gQ_sR, gQ_sQ, gQ_sD, gQ_sN, gQ_sz, gD_sI, gD_sA, gD_sL, gD_sJ, gD_sR, gD_sQ, gD_sD, gD_sN, gD_sz, sz_sI, sz_sA, sz_sL, sz_sJ, sz_sR, sz_sQ, sz_sD, sz_sN, sz_sz, c2, h]
  · simp (disch := omega) only [f_Alarms_waits, Option.bind_some, Nat.reduceEqDiff, Nat.add_zero, Nat.zero_add, Nat.reduceLT, Nat.reduceLeDiff, Nat.reduceAdd, Nat.reduceSub, Nat.reduceMul, Nat.reduceDiv, Nat.lt_irrefl, Nat.not_lt_zero, Nat.zero_le, Nat.one_ne_zero, Nat.succ_ne_zero,  lt_def, i32_lit, reduceIte, P_isIn_eq, or_false, false_or, or_true, true_or, and_true, true_and, and_false, false_and, not_true, not_false_eq_true, eq_self, if_true, if_false, not_or, not_and, Nat.not_lt, Nat.not_le, io_lt, io_le, io_eq, io_neg1, io_neg1', neg1_lt, io_le_neg1, io_lt_neg1, io_add, io_mul, io_pred, io_modE, natMod, io_sub, io_div, ix_io, gI_sI, gI_sA, gI_sL, gI_sJ, gI_sR, gI_sQ, gI_sD, gI_sN, gI_sz, gA_sI, gA_sA, gA_sL, gA_sJ, gA_sR, gA_sQ, gA_sD, gA_sN, gA_sz, gL_sI, gL_sA, gL_sL, gL_sJ, gL_sR, gL_sQ, gL_sD, gL_sN, gL_sz, gJ_sI, gJ_sA, gJ_sL, gJ_sJ, gJ_sR, gJ_sQ, gJ_sD, gJ_sN, gJ_sz, gR_sI, gR_sA, gR_sL, gR_sJ, gR_sR, gR_sQ, gR_sD, gR_sN, gR_sz, gQ_sI, gQ_sA, gQ_sL, gQ_sJ, gQ_sR, gQ_sQ, gQ_sD, gQ_sN, gQ_sz, gD_sI, gD_sA, gD_sL, gD_sJ, gD_sR, gD_sQ, gD_sD, gD_sN, gD_sz, sz_sI, sz_sA, sz_sL, sz_sJ, sz_sR, sz_sQ, sz_sD, sz_sN, sz_sz, c2, h]
theorem CV.al (H : CV s w) {i : Nat} (hi : i < yc (vy w)) : gA s 19 i = io (xq (ya (vy w)) i) ∧ gA s 20 i = io (xt (ya (vy w)) i) ∧ gA s 23 i = io (xa (ya (vy w)) i) ∧ (i < yw (vy w) → gA s 21 i = io (xp (ya (vy w)) i - 1) ∧ gA s 22 i = io (xu (ya (vy w)) i)) := H.1.2.2.2.2.1.2.2.2 i hi
theorem CV.ag (H : CV s w) {i : Nat} (hi : i < yc (vy w)) : xq (ya (vy w)) i < vR w ∧ 1 ≤ xt (ya (vy w)) i ∧ xt (ya (vy w)) i ≤ yh (vy w) ∧ xa (ya (vy w)) i ≤ 1 ∧ ((i < yw (vy w) ∧ 1 ≤ xp (ya (vy w)) i ∧ xp (ya (vy w)) i ≤ vn w ∧ xu (ya (vy w)) i ≤ yh (vy w)) ∨ (yw (vy w) ≤ i ∧ xp (ya (vy w)) i = 0 ∧ xu (ya (vy w)) i = 0 ∧ xa (ya (vy w)) i = 0)) := H.2.1.2.2.2.1.2.2.2 i hi
theorem W_alarm (H : CV s w) {i : Nat} (hi : i < yc (vy w)) : f_P_alarm F Z s (io i) = some (.inl (io (10000 * xq (ya (vy w)) i + xt (ya (vy w)) i)), s) := by
  obtain ⟨c1, c2, c3, c4⟩ := H.c
  obtain ⟨a1, a2, -⟩ := H.al hi
  simp (disch := omega) only [f_P_alarm, Option.bind_some, Nat.reduceEqDiff, Nat.add_zero, Nat.zero_add, Nat.reduceLT, Nat.reduceLeDiff, Nat.reduceAdd, Nat.reduceSub, Nat.reduceMul, Nat.reduceDiv, Nat.lt_irrefl, Nat.not_lt_zero, Nat.zero_le, Nat.one_ne_zero, Nat.succ_ne_zero,  lt_def, i32_lit, reduceIte, P_isIn_eq, or_false, false_or, or_true, true_or, and_true, true_and, and_false, false_and, not_true, not_false_eq_true, eq_self, if_true, if_false, not_or, not_and, Nat.not_lt, Nat.not_le, W_has H hi, io_eq, ix_io, a1, a2, io_mul, io_add]
theorem W_woken (H : CV s w) {i : Nat} (hi : i < yc (vy w)) : f_P_woken F Z s (io i) = some (.inl (if i < yw (vy w) then io (xp (ya (vy w)) i - 1) else -io 1), s) := by
  obtain ⟨c1, c2, c3, c4⟩ := H.c
  obtain ⟨a1, a2, a3, a4⟩ := H.al hi
  have hw := W_waits (F := F) H hi
  by_cases h : i < yw (vy w)
  · rw [if_pos h] at hw ⊢
    simp (disch := omega) only [f_P_woken, Option.bind_some, Nat.reduceEqDiff, Nat.add_zero, Nat.zero_add, Nat.reduceLT, Nat.reduceLeDiff, Nat.reduceAdd, Nat.reduceSub, Nat.reduceMul, Nat.reduceDiv, Nat.lt_irrefl, Nat.not_lt_zero, Nat.zero_le, Nat.one_ne_zero, Nat.succ_ne_zero,  lt_def, i32_lit, reduceIte, P_isIn_eq, or_false, false_or, or_true, true_or, and_true, true_and, and_false, false_and, not_true, not_false_eq_true, eq_self, if_true, if_false, not_or, not_and, Nat.not_lt, Nat.not_le, W_has H hi, hw, io_eq, ix_io, (a4 h).1]
  · rw [if_neg h] at hw ⊢
    simp (disch := omega) only [f_P_woken, Option.bind_some, Nat.reduceEqDiff, Nat.add_zero, Nat.zero_add, Nat.reduceLT, Nat.reduceLeDiff, Nat.reduceAdd, Nat.reduceSub, Nat.reduceMul, Nat.reduceDiv, Nat.lt_irrefl, Nat.not_lt_zero, Nat.zero_le, Nat.one_ne_zero, Nat.succ_ne_zero,  lt_def, i32_lit, reduceIte, P_isIn_eq, or_false, false_or, or_true, true_or, and_true, true_and, and_false, false_and, not_true, not_false_eq_true, eq_self, if_true, if_false, not_or, not_and, Nat.not_lt, Nat.not_le, W_has H hi, hw, io_eq]
theorem W_wokenAt (H : CV s w) {i : Nat} (hi : i < yc (vy w)) (h : i < yw (vy w)) : f_P_wokenAt F Z s (io i) = some (.inl (io (xu (ya (vy w)) i)), s) := by
  obtain ⟨c1, c2, c3, c4⟩ := H.c
  obtain ⟨a1, a2, a3, a4⟩ := H.al hi
  have hw := W_waits (F := F) H hi
  rw [if_pos h] at hw
  simp (disch := omega) only [f_P_wokenAt, Option.bind_some, Nat.reduceEqDiff, Nat.add_zero, Nat.zero_add, Nat.reduceLT, Nat.reduceLeDiff, Nat.reduceAdd, Nat.reduceSub, Nat.reduceMul, Nat.reduceDiv, Nat.lt_irrefl, Nat.not_lt_zero, Nat.zero_le, Nat.one_ne_zero, Nat.succ_ne_zero,  lt_def, i32_lit, reduceIte, P_isIn_eq, or_false, false_or, or_true, true_or, and_true, true_and, and_false, false_and, not_true, not_false_eq_true, eq_self, if_true, if_false, not_or, not_and, Nat.not_lt, Nat.not_le, W_has H hi, hw, io_eq, ix_io, (a4 h).2]
theorem W_wokenAt_x (H : CV s w) {i : Nat} (hi : i < yc (vy w)) (h : ¬ i < yw (vy w)) : f_P_wokenAt F Z s (io i) = xz Z s 3 := by
  have hw := W_waits (F := F) H hi
  rw [if_neg h] at hw
  simp (disch := omega) only [f_P_wokenAt, Option.bind_some, Nat.reduceEqDiff, Nat.add_zero, Nat.zero_add, Nat.reduceLT, Nat.reduceLeDiff, Nat.reduceAdd, Nat.reduceSub, Nat.reduceMul, Nat.reduceDiv, Nat.lt_irrefl, Nat.not_lt_zero, Nat.zero_le, Nat.one_ne_zero, Nat.succ_ne_zero,  lt_def, i32_lit, reduceIte, P_isIn_eq, or_false, false_or, or_true, true_or, and_true, true_and, and_false, false_and, not_true, not_false_eq_true, eq_self, if_true, if_false, not_or, not_and, Nat.not_lt, Nat.not_le, W_has H hi, hw, io_eq]
theorem W_alarm_x (H : CV s w) {x y : Int32} (hx : ¬ ∃ i, i < yc (vy w) ∧ x = io i) : f_P_alarm F Z s x = xz Z s 2 ∧ f_P_woken F Z s x = xz Z s 2 ∧ f_P_wokenAt F Z s x = xz Z s 2 ∧ f_P_wouldRise F Z s x = xz Z s 2 ∧ f_P_answer F Z s x y = xz Z s 2 := by
  have hf := W_has_x (F := F) H hx
  refine ⟨?_, ?_, ?_, ?_, ?_⟩
  · simp (disch := omega) only [f_P_alarm, Option.bind_some, Nat.reduceEqDiff, Nat.add_zero, Nat.zero_add, Nat.reduceLT, Nat.reduceLeDiff, Nat.reduceAdd, Nat.reduceSub, Nat.reduceMul, Nat.reduceDiv, Nat.lt_irrefl, Nat.not_lt_zero, Nat.zero_le, Nat.one_ne_zero, Nat.succ_ne_zero,  lt_def, i32_lit, reduceIte, P_isIn_eq, or_false, false_or, or_true, true_or, and_true, true_and, and_false, false_and, not_true, not_false_eq_true, eq_self, if_true, if_false, not_or, not_and, Nat.not_lt, Nat.not_le, hf]
  · simp (disch := omega) only [f_P_woken, Option.bind_some, Nat.reduceEqDiff, Nat.add_zero, Nat.zero_add, Nat.reduceLT, Nat.reduceLeDiff, Nat.reduceAdd, Nat.reduceSub, Nat.reduceMul, Nat.reduceDiv, Nat.lt_irrefl, Nat.not_lt_zero, Nat.zero_le, Nat.one_ne_zero, Nat.succ_ne_zero,  lt_def, i32_lit, reduceIte, P_isIn_eq, or_false, false_or, or_true, true_or, and_true, true_and, and_false, false_and, not_true, not_false_eq_true, eq_self, if_true, if_false, not_or, not_and, Nat.not_lt, Nat.not_le, hf]
  · simp (disch := omega) only [f_P_wokenAt, Option.bind_some, Nat.reduceEqDiff, Nat.add_zero, Nat.zero_add, Nat.reduceLT, Nat.reduceLeDiff, Nat.reduceAdd, Nat.reduceSub, Nat.reduceMul, Nat.reduceDiv, Nat.lt_irrefl, Nat.not_lt_zero, Nat.zero_le, Nat.one_ne_zero, Nat.succ_ne_zero,  lt_def, i32_lit, reduceIte, P_isIn_eq, or_false, false_or, or_true, true_or, and_true, true_and, and_false, false_and, not_true, not_false_eq_true, eq_self, if_true, if_false, not_or, not_and, Nat.not_lt, Nat.not_le, hf]
  · simp (disch := omega) only [f_P_wouldRise, Option.bind_some, Nat.reduceEqDiff, Nat.add_zero, Nat.zero_add, Nat.reduceLT, Nat.reduceLeDiff, Nat.reduceAdd, Nat.reduceSub, Nat.reduceMul, Nat.reduceDiv, Nat.lt_irrefl, Nat.not_lt_zero, Nat.zero_le, Nat.one_ne_zero, Nat.succ_ne_zero,  lt_def, i32_lit, reduceIte, P_isIn_eq, or_false, false_or, or_true, true_or, and_true, true_and, and_false, false_and, not_true, not_false_eq_true, eq_self, if_true, if_false, not_or, not_and, Nat.not_lt, Nat.not_le, hf]
  · simp (disch := omega) only [f_P_answer, Option.bind_some, Nat.reduceEqDiff, Nat.add_zero, Nat.zero_add, Nat.reduceLT, Nat.reduceLeDiff, Nat.reduceAdd, Nat.reduceSub, Nat.reduceMul, Nat.reduceDiv, Nat.lt_irrefl, Nat.not_lt_zero, Nat.zero_le, Nat.one_ne_zero, Nat.succ_ne_zero,  lt_def, i32_lit, reduceIte, P_isIn_eq, or_false, false_or, or_true, true_or, and_true, true_and, and_false, false_and, not_true, not_false_eq_true, eq_self, if_true, if_false, not_or, not_and, Nat.not_lt, Nat.not_le, hf]
/-- would it rise with what is told now -/
def wri (w : WD) (i : Nat) : Int64 := valQ (ev (vL w) (pks (vL w) (vm w) (xt (ya (vy w)) i + 1 - uw (yu (vy w) (xq (ya (vy w)) i))) (xt (ya (vy w)) i) (yh (vy w)))) (uc (yu (vy w) (xq (ya (vy w)) i)))
theorem W_wouldRise (hF : 5000 ≤ F) (H : CV s w) {i : Nat} (hi : i < yc (vy w)) : ∃ s', f_P_wouldRise F Z s (io i) = some (.inl (if wri w i = 0 then io 0 else io 1), s') ∧ CV s' w ∧ KA s s' := by
  obtain ⟨C, G, hS, LC, LG, ⟨v1, T1⟩, v2, T2⟩ := H.ru
  obtain ⟨h2, hh⟩ := H.h
  obtain ⟨c1, c2, c3, c4⟩ := H.c
  obtain ⟨a1, a2, -⟩ := H.al hi
  obtain ⟨b1, b2, b3, -⟩ := H.ag hi
  obtain ⟨g1, g2, g3, g4, g5, -⟩ := G.2.1 _ b1
  obtain ⟨s1, e1, e2, e3⟩ := pickW_eq (F := F) (th := xt (ya (vy w)) i) (tb := yh (vy w)) hF LC LG hh (C.2 _ b1).2 ⟨g4, g5⟩ (by omega) hh
  obtain ⟨o, nq, d1, -, -, -, -, -, -, -, -, d2, -, -, d3, -⟩ := ((C.2 _ b1).2.de e3.de).dg
  have f1 := e3.fx
  obtain ⟨s2, w1, w2, w3⟩ := walk_eq (F := F) hF (Nat.le_refl 40) d3 e2 ⟨v1, T1.fx f1⟩
  have f2 := w2.1.fx
  have hne : ¬ some (uq (yu (vy w) (xq (ya (vy w)) i))) = none := by simp
  have H1 := H.fx f1 ⟨v1, T1.fx f1⟩ ⟨v2, T2.fx f1⟩
  refine ⟨s2, ?_, H1.fx f2 w3 ⟨v2, (T2.fx f1).fx f2⟩, (KA.fx f1).trans (KA.fx f2)⟩
  have hv : wri w i = valQ (ev (vL w) (pks (vL w) (vm w) (xt (ya (vy w)) i + 1 - uw (yu (vy w) (xq (ya (vy w)) i))) (xt (ya (vy w)) i) (yh (vy w)))) (uc (yu (vy w) (xq (ya (vy w)) i))) := rfl
  rw [← hv] at w1
  generalize wri w i = v at w1
  by_cases hv0 : v = 0
  · simp (disch := omega) only [f_P_wouldRise, Option.bind_some, Nat.reduceEqDiff, Nat.add_zero, Nat.zero_add, Nat.reduceLT, Nat.reduceLeDiff, Nat.reduceAdd, Nat.reduceSub, Nat.reduceMul, Nat.reduceDiv, Nat.lt_irrefl, Nat.not_lt_zero, Nat.zero_le, Nat.one_ne_zero, Nat.succ_ne_zero,  lt_def, i32_lit, reduceIte, P_isIn_eq, or_false, false_or, or_true, true_or, and_true, true_and, and_false, false_and, not_true, not_false_eq_true, eq_self, if_true, if_false, not_or, not_and, Nat.not_lt, Nat.not_le, W_has H hi, io_eq, ix_io, a1, ruleAt_t C G.1 b1, hne, a2, h2, e1, d1, d2, w1, hv0]
  · simp (disch := omega) only [f_P_wouldRise, Option.bind_some, Nat.reduceEqDiff, Nat.add_zero, Nat.zero_add, Nat.reduceLT, Nat.reduceLeDiff, Nat.reduceAdd, Nat.reduceSub, Nat.reduceMul, Nat.reduceDiv, Nat.lt_irrefl, Nat.not_lt_zero, Nat.zero_le, Nat.one_ne_zero, Nat.succ_ne_zero,  lt_def, i32_lit, reduceIte, P_isIn_eq, or_false, false_or, or_true, true_or, and_true, true_and, and_false, false_and, not_true, not_false_eq_true, eq_self, if_true, if_false, not_or, not_and, Nat.not_lt, Nat.not_le, W_has H hi, io_eq, ix_io, a1, ruleAt_t C G.1 b1, hne, a2, h2, e1, d1, d2, w1, hv0]
/-- answers -/
def aans (a : AG) (i : Nat) : AG := (xq a, xt a, xp a, xu a, ups (xa a) i 1)
def gowe (g : RG) (d a b : Nat) : RG := (gsw g, gof g, gho g, ups (gda g) d a, ups (gdb g) d b)
def yan (y : GS) (i : Nat) : GS := (yh y, yg y, yd y, aans (ya y) i, yc y, yw y, yu y)
def yow (y : GS) (i a b : Nat) : GS := (yh y, gowe (yg y) (yd y) a b, yd y + 1, aans (ya y) i, yc y, yw y, yu y)
theorem ALc.ans {s : St} {a : AG} {c wn i : Nat} (A : ALc s a c wn) (hi : i < c) : ALc (sA s 23 i (io 1)) (aans a i) c wn := by
  obtain ⟨a1, a2, a3, a4⟩ := A
  refine ⟨a1, a2, fun j hj hj2 => ?_, fun j hj => ?_⟩
  · rw [gA_sA, if_pos rfl, if_neg (by omega)]; exact a3 j hj hj2
  · obtain ⟨b1, b2, b3, b4⟩ := a4 j hj
    refine ⟨b1, b2, ?_, b4⟩
    show gA (sA s 23 i (io 1)) 23 j = io (ups (xa a) i 1 j)
    rw [gA_sA, if_pos rfl]
    unfold ups
    by_cases e : j = i
    · rw [if_pos e, if_pos e]
    · rw [if_neg e, if_neg e]; exact b3
theorem ALg.ans {a : AG} {h n r c wn i : Nat} (G : ALg a h n r c wn) (hi : i < wn) : ALg (aans a i) h n r c wn := by
  obtain ⟨g1, g2, g3, g4⟩ := G
  refine ⟨g1, g2, g3, fun j hj => ?_⟩
  obtain ⟨b1, b2, b3, b4, b5⟩ := g4 j hj
  have e : xa (aans a i) j = if j = i then 1 else xa a j := rfl
  refine ⟨b1, b2, b3, ?_, ?_⟩
  · rw [e]
    by_cases h : j = i
    · rw [if_pos h]; exact Nat.le_refl _
    · rw [if_neg h]; exact b4
  · rcases b5 with b5 | ⟨q1, q2, q3, q4⟩
    · exact Or.inl b5
    · refine Or.inr ⟨q1, q2, q3, ?_⟩
      rw [e, if_neg (by omega)]; exact q4
theorem W_answer (H : CV s w) {i : Nat} (hi : i < yc (vy w)) (hiw : i < yw (vy w)) (ha : xa (ya (vy w)) i = 0) {vx : Int32} (vv : vx = io 0 ∨ vx = io 1) (hv : ¬ (vx = io 1 ∧ xu (ya (vy w)) i / 8 % 3 = 0 ∧ uo (yu (vy w) (xq (ya (vy w)) i)) ≠ xp (ya (vy w)) i - 1)) :
    f_P_answer F Z s (io i) vx = some (.inl (io (yd (vy w))), sA s 23 i (io 1)) ∧ CV (sA s 23 i (io 1)) (yan (vy w) i, vL w, vm w, vn w, vR w, vt w, vk w) ∧ KA s (sA s 23 i (io 1)) := by
  have H0 := H
  obtain ⟨C, G, hS, -⟩ := H.ru
  have hR := G.1
  obtain ⟨c1, c2, c3, c4⟩ := H.c
  obtain ⟨d1, d2⟩ := H.d
  obtain ⟨e19, e20, e23, e4⟩ := H.al hi
  obtain ⟨e21, e22⟩ := e4 hiw
  rw [ha] at e23
  obtain ⟨q1, q2, q3, q4, q5⟩ := H.ag hi
  have hh := H.h.2
  have hn := H.n.2
  have hpw := W_waits (F := F) H hi
  rw [if_pos hiw] at hpw
  have hq5 : 1 ≤ xp (ya (vy w)) i ∧ xp (ya (vy w)) i ≤ vn w ∧ xu (ya (vy w)) i ≤ yh (vy w) := by
    rcases q5 with q5 | q5
    · exact q5.2
    · omega
  generalize xu (ya (vy w)) i = u' at e22 hv hq5
  generalize xp (ya (vy w)) i = p at e21 hv hq5
  generalize hqq : xq (ya (vy w)) i = q at e19 hv q1
  have f : FX [] [23] s (sA s 23 i (io 1)) := Fr.fx (Fr.rf.A (by decide))
  have fy := f.swD
  refine ⟨?_, ?_, KA.fx f⟩
  · have hPn := fun (s' : St) => P_night_eq (F := F) (s := s') (j := u' / 8) (by omega)
    have e74' : gI (sA s 23 i (io 1)) 774 = io (yd (vy w)) := d1
    rcases vv with rfl | rfl
    · simp (disch := omega) only [f_P_answer, Option.bind_some, Nat.reduceEqDiff, Nat.add_zero, Nat.zero_add, Nat.reduceLT, Nat.reduceLeDiff, Nat.reduceAdd, Nat.reduceSub, Nat.reduceMul, Nat.reduceDiv, Nat.lt_irrefl, Nat.not_lt_zero, Nat.zero_le, Nat.one_ne_zero, Nat.succ_ne_zero,  lt_def, i32_lit, reduceIte, P_isIn_eq, or_false, false_or, or_true, true_or, and_true, true_and, and_false, false_and, not_true, not_false_eq_true, eq_self, if_true, if_false, not_or, not_and, Nat.not_lt, Nat.not_le, W_has H0 hi, io_eq, hpw, ix_io, e23, e74']
    · by_cases hnight : u' / 8 % 3 = 0
      · simp only [hnight, if_true] at hPn
        have hown : uo (yu (vy w) q) = p - 1 := Classical.byContradiction fun h => hv ⟨rfl, hnight, h⟩
        obtain ⟨o, nq, d1, k1, -⟩ := (C.2 q q1).2.dg
        have hne : ¬ some (uq (yu (vy w) q)) = none := by simp
        have hC23 : RUc (sA s 23 i (io 1)) (yu (vy w)) (vR w) := C.fr (eI := []) (eA := [23]) (Fr.rf.A (by decide))
        have hrt := ruleAt_t (F := F) hC23 hR q1
        have dg23 : dgo (sA s 23 i (io 1)) (some (uq (yu (vy w) q))) 6 = some (uq (yu (vy w) q), o) := d1
        have e57 : gI (sA s 23 i (io 1)) 1157 = io (yc (vy w)) := c1
        have m1 : ¬ yc (vy w) ≤ i := by omega
        have m2 : ¬ 4000 ≤ i := by omega
        have m0 : ¬ i < 0 := by omega
        have hhas : f_Alarms_has F (sA s 23 i (io 1)) (io i) = some (io 1, sA s 23 i (io 1)) := by
          simp (disch := omega) only [f_Alarms_has, Option.bind_some, Nat.reduceEqDiff, Nat.add_zero, Nat.zero_add, Nat.reduceLT, Nat.reduceLeDiff, Nat.reduceAdd, Nat.reduceSub, Nat.reduceMul, Nat.reduceDiv, Nat.lt_irrefl, Nat.not_lt_zero, Nat.zero_le, Nat.one_ne_zero, Nat.succ_ne_zero,  lt_def, i32_lit, reduceIte, P_isIn_eq, or_false, false_or, or_true, true_or, and_true, true_and, and_false, false_and, not_true, not_false_eq_true, eq_self, if_true, if_false, not_or, not_and, Nat.not_lt, Nat.not_le, io_lt, m0, e57, io_le, m1, m2]
        have e19' : gA (sA s 23 i (io 1)) 19 i = io q := e19
        have e21' : gA (sA s 23 i (io 1)) 21 i = io (p - 1) := e21
        have hfor : f_P_oweForAlarm F (sA s 23 i (io 1)) (io i) = some (sA s 23 i (io 1)) := by
          simp (disch := omega) only [f_P_oweForAlarm, Option.bind_some, Nat.reduceEqDiff, Nat.add_zero, Nat.zero_add, Nat.reduceLT, Nat.reduceLeDiff, Nat.reduceAdd, Nat.reduceSub, Nat.reduceMul, Nat.reduceDiv, Nat.lt_irrefl, Nat.not_lt_zero, Nat.zero_le, Nat.one_ne_zero, Nat.succ_ne_zero,  lt_def, i32_lit, reduceIte, P_isIn_eq, or_false, false_or, or_true, true_or, and_true, true_and, and_false, false_and, not_true, not_false_eq_true, eq_self, if_true, if_false, not_or, not_and, Nat.not_lt, Nat.not_le, hhas, io_eq, ix_io, e19', hrt, hne, dg23, k1, hown, e21']
        simp (disch := omega) only [f_P_answer, Option.bind_some, Nat.reduceEqDiff, Nat.add_zero, Nat.zero_add, Nat.reduceLT, Nat.reduceLeDiff, Nat.reduceAdd, Nat.reduceSub, Nat.reduceMul, Nat.reduceDiv, Nat.lt_irrefl, Nat.not_lt_zero, Nat.zero_le, Nat.one_ne_zero, Nat.succ_ne_zero,  lt_def, i32_lit, reduceIte, P_isIn_eq, or_false, false_or, or_true, true_or, and_true, true_and, and_false, false_and, not_true, not_false_eq_true, eq_self, if_true, if_false, not_or, not_and, Nat.not_lt, Nat.not_le, W_has H0 hi, io_eq, hpw, ix_io, e23, gA_sA, e22, io_div, hPn, hfor, e74']
      · simp only [hnight, if_false] at hPn
        simp (disch := omega) only [f_P_answer, Option.bind_some, Nat.reduceEqDiff, Nat.add_zero, Nat.zero_add, Nat.reduceLT, Nat.reduceLeDiff, Nat.reduceAdd, Nat.reduceSub, Nat.reduceMul, Nat.reduceDiv, Nat.lt_irrefl, Nat.not_lt_zero, Nat.zero_le, Nat.one_ne_zero, Nat.succ_ne_zero,  lt_def, i32_lit, reduceIte, P_isIn_eq, or_false, false_or, or_true, true_or, and_true, true_and, and_false, false_and, not_true, not_false_eq_true, eq_self, if_true, if_false, not_or, not_and, Nat.not_lt, Nat.not_le, W_has H0 hi, io_eq, hpw, ix_io, e23, gA_sA, e22, io_div, hPn, e74']
  · obtain ⟨⟨c1, c2, c3, c4, c5, c6, c7, ⟨v1, c8⟩⟩, g, hn8, t1, t2, t3, ⟨v2, t4⟩⟩ := H
    obtain ⟨g1, g2, g3, g4, g5, g6, g7, g8, g9⟩ := g
    exact ⟨⟨c1, c2.fy fy, c3.fy fy, c4.fy fy, c5.ans hi, c6.fx f, c7.fx f, ⟨v1, c8.fx f⟩⟩, ⟨g1, g2, g3, g4.ans hiw, g5, g6, g7, g8, g9⟩, hn8, t1, t2, t3, ⟨v2, t4.fx f⟩⟩
theorem W_answer_d (H : CV s w) {i : Nat} (hi : i < yc (vy w)) (hiw : i < yw (vy w)) (ha : xa (ya (vy w)) i = 0) (hd : yd (vy w) < 4000) (hnight : xu (ya (vy w)) i / 8 % 3 = 0) (hown : uo (yu (vy w) (xq (ya (vy w)) i)) ≠ xp (ya (vy w)) i - 1) :
    ∃ s', f_P_answer F Z s (io i) (io 1) = some (.inl (io (yd (vy w) + 1)), s') ∧ CV s' (yow (vy w) i (uo (yu (vy w) (xq (ya (vy w)) i))) (xp (ya (vy w)) i - 1), vL w, vm w, vn w, vR w, vt w, vk w) ∧ KA s s' := by
  have H0 := H
  obtain ⟨C, G, hS, -⟩ := H.ru
  have hR := G.1
  obtain ⟨c1, c2, c3, c4⟩ := H.c
  obtain ⟨d1, d2⟩ := H.d
  obtain ⟨e19, e20, e23, e4⟩ := H.al hi
  obtain ⟨e21, e22⟩ := e4 hiw
  rw [ha] at e23
  obtain ⟨q1, q2, q3, q4, q5⟩ := H.ag hi
  have hh := H.h.2
  have hn := H.n.2
  have hpw := W_waits (F := F) H hi
  rw [if_pos hiw] at hpw
  have hq5 : 1 ≤ xp (ya (vy w)) i ∧ xp (ya (vy w)) i ≤ vn w ∧ xu (ya (vy w)) i ≤ yh (vy w) := by
    rcases q5 with q5 | q5
    · exact q5.2
    · omega
  generalize xu (ya (vy w)) i = u' at e22 hnight hq5
  generalize xp (ya (vy w)) i = p at e21 hown hq5 ⊢
  generalize hqq : xq (ya (vy w)) i = q at e19 hown q1 ⊢
  have k1o : uo (yu (vy w) q) < vn w := (G.2.1 q q1).2.2.1
  generalize hd9 : yd (vy w) = d at d1 d2 hd ⊢
  obtain ⟨s', hs'⟩ : ∃ s', s' = sI (sA (sA (sA s 23 i (io 1)) 16 d (io (uo (yu (vy w) q)))) 17 d (io (p - 1))) 774 (io (d + 1)) := ⟨_, rfl⟩
  have f : FX [774] [16, 17, 23] s s' := by rw [hs']; exact Fr.fx ((((Fr.rf.A (by decide)).A (by decide)).A (by decide)).I (by decide))
  have fy := f.swD
  refine ⟨s', ?_, ?_, KA.fx f⟩
  · have hPn := fun (s' : St) => P_night_eq (F := F) (s := s') (j := u' / 8) (by omega)
    simp only [hnight, if_true] at hPn
    have e74' : gI (sA s 23 i (io 1)) 774 = io d := d1
    obtain ⟨o, nq, dd1, k1, -⟩ := (C.2 q q1).2.dg
    have hne : ¬ some (uq (yu (vy w) q)) = none := by simp
    have hC23 : RUc (sA s 23 i (io 1)) (yu (vy w)) (vR w) := C.fr (eI := []) (eA := [23]) (Fr.rf.A (by decide))
    have hrt := ruleAt_t (F := F) hC23 hR q1
    have dg23 : dgo (sA s 23 i (io 1)) (some (uq (yu (vy w) q))) 6 = some (uq (yu (vy w) q), o) := dd1
    have e57 : gI (sA s 23 i (io 1)) 1157 = io (yc (vy w)) := c1
    have m1 : ¬ yc (vy w) ≤ i := by omega
    have m2 : ¬ 4000 ≤ i := by omega
    have m0 : ¬ i < 0 := by omega
    have hhas : f_Alarms_has F (sA s 23 i (io 1)) (io i) = some (io 1, sA s 23 i (io 1)) := by
      simp (disch := omega) only [f_Alarms_has, Option.bind_some, Nat.reduceEqDiff, Nat.add_zero, Nat.zero_add, Nat.reduceLT, Nat.reduceLeDiff, Nat.reduceAdd, Nat.reduceSub, Nat.reduceMul, Nat.reduceDiv, Nat.lt_irrefl, Nat.not_lt_zero, Nat.zero_le, Nat.one_ne_zero, Nat.succ_ne_zero,  lt_def, i32_lit, reduceIte, P_isIn_eq, or_false, false_or, or_true, true_or, and_true, true_and, and_false, false_and, not_true, not_false_eq_true, eq_self, if_true, if_false, not_or, not_and, Nat.not_lt, Nat.not_le, io_lt, m0, e57, io_le, m1, m2]
    have e19' : gA (sA s 23 i (io 1)) 19 i = io q := e19
    have e21' : gA (sA s 23 i (io 1)) 21 i = io (p - 1) := e21
    have n3 : ¬ 3999 < d := by omega
    have n0 : ¬ d < 0 := by omega
    have hadd : f_Rota_addDebt F (sA s 23 i (io 1)) (io (uo (yu (vy w) q))) (io (p - 1)) = some s' := by
      rw [hs']
      simp (disch := omega) only [f_Rota_addDebt, Option.bind_some, Nat.reduceEqDiff, Nat.add_zero, Nat.zero_add, Nat.reduceLT, Nat.reduceLeDiff, Nat.reduceAdd, Nat.reduceSub, Nat.reduceMul, Nat.reduceDiv, Nat.lt_irrefl, Nat.not_lt_zero, Nat.zero_le, Nat.one_ne_zero, Nat.succ_ne_zero,  lt_def, i32_lit, reduceIte, P_isIn_eq, or_false, false_or, or_true, true_or, and_true, true_and, and_false, false_and, not_true, not_false_eq_true, eq_self, if_true, if_false, not_or, not_and, Nat.not_lt, Nat.not_le, e74', io_lt, n0, io_sub, n3, io_eq, ix_io, gI_sA, io_add]
    have hfor : f_P_oweForAlarm F (sA s 23 i (io 1)) (io i) = some s' := by
      simp (disch := omega) only [f_P_oweForAlarm, Option.bind_some, Nat.reduceEqDiff, Nat.add_zero, Nat.zero_add, Nat.reduceLT, Nat.reduceLeDiff, Nat.reduceAdd, Nat.reduceSub, Nat.reduceMul, Nat.reduceDiv, Nat.lt_irrefl, Nat.not_lt_zero, Nat.zero_le, Nat.one_ne_zero, Nat.succ_ne_zero,  lt_def, i32_lit, reduceIte, P_isIn_eq, or_false, false_or, or_true, true_or, and_true, true_and, and_false, false_and, not_true, not_false_eq_true, eq_self, if_true, if_false, not_or, not_and, Nat.not_lt, Nat.not_le, hhas, io_eq, ix_io, e19', hrt, hne, dg23, k1, e21', hown, hadd]
    have e74s : gI s' 774 = io (d + 1) := by rw [hs', gI_sI, if_pos rfl]
    simp (disch := omega) only [f_P_answer, Option.bind_some, Nat.reduceEqDiff, Nat.add_zero, Nat.zero_add, Nat.reduceLT, Nat.reduceLeDiff, Nat.reduceAdd, Nat.reduceSub, Nat.reduceMul, Nat.reduceDiv, Nat.lt_irrefl, Nat.not_lt_zero, Nat.zero_le, Nat.one_ne_zero, Nat.succ_ne_zero,  lt_def, i32_lit, reduceIte, P_isIn_eq, or_false, false_or, or_true, true_or, and_true, true_and, and_false, false_and, not_true, not_false_eq_true, eq_self, if_true, if_false, not_or, not_and, Nat.not_lt, Nat.not_le, W_has H0 hi, io_eq, hpw, ix_io, e23, gA_sA, e22, io_div, hPn, hfor, e74s]
  · obtain ⟨⟨c1, c2, c3, c4, c5, c6, c7, ⟨v1, c8⟩⟩, g, hn8, t1, t2, t3, ⟨v2, t4⟩⟩ := H
    obtain ⟨g1, g2, g3, g4, g5, g6, g7, g8, g9⟩ := g
    have eA : ∀ k, k ≠ 16 → k ≠ 17 → k ≠ 23 → gA s' k = gA s k := fun k h1 h2 h3 => f.2.1 k (by simp [h1, h2, h3])
    have hy : yd (yow (vy w) i (uo (yu (vy w) q)) (p - 1)) = d + 1 := by show yd (vy w) + 1 = d + 1; rw [hd9]
    have e16 : ∀ j, gA s' 16 j = if j = d then io (uo (yu (vy w) q)) else gA s 16 j := fun j => by
      rw [hs', gA_sI, gA_sA, if_neg (show ¬ (16 : Nat) = 17 by decide), gA_sA, if_pos rfl, gA_sA, if_neg (show ¬ (16 : Nat) = 23 by decide)]
    have e17 : ∀ j, gA s' 17 j = if j = d then io (p - 1) else gA s 17 j := fun j => by
      rw [hs', gA_sI, gA_sA, if_pos rfl, gA_sA, if_neg (show ¬ (17 : Nat) = 16 by decide), gA_sA, if_neg (show ¬ (17 : Nat) = 23 by decide)]
    have h23 : ∀ j, gA s' 23 j = gA (sA s 23 i (io 1)) 23 j := fun j => by
      rw [hs', gA_sI, gA_sA, if_neg (show ¬ (23 : Nat) = 17 by decide), gA_sA, if_neg (show ¬ (23 : Nat) = 16 by decide)]
    have A2 : ALc s' (aans (ya (vy w)) i) (yc (vy w)) (yw (vy w)) := by
      obtain ⟨b1, b2, b3, b4⟩ := c5.ans hi
      refine ⟨by rw [hs']; exact b1, by rw [hs']; exact b2, fun j hj hj2 => by rw [h23]; exact b3 j hj hj2, fun j hj => ?_⟩
      obtain ⟨x1, x2, x3, x4⟩ := b4 j hj
      rw [eA 19 (by decide) (by decide) (by decide), eA 20 (by decide) (by decide) (by decide), h23, eA 21 (by decide) (by decide) (by decide), eA 22 (by decide) (by decide) (by decide)]
      exact ⟨x1, x2, x3, x4⟩
    have hgd : ∀ j, gda (gowe (yg (vy w)) (yd (vy w)) (uo (yu (vy w) q)) (p - 1)) j = if j = d then uo (yu (vy w) q) else gda (yg (vy w)) j := fun j => by rw [hd9]; rfl
    have hgb : ∀ j, gdb (gowe (yg (vy w)) (yd (vy w)) (uo (yu (vy w) q)) (p - 1)) j = if j = d then p - 1 else gdb (yg (vy w)) j := fun j => by rw [hd9]; rfl
    refine ⟨⟨(f.1 2 (by decide)).trans c1, c2.fy fy, c3.fy fy, ?_, A2, c6.fx f, c7.fx f, ⟨v1, c8.fx f⟩⟩, ⟨g1, g2, ?_, g4.ans hiw, g5, g6, g7, g8, g9⟩, hn8, t1, fun k hk => by rw [eA 1 (by decide) (by decide) (by decide)]; exact t2 k hk, (f.1 1 (by decide)).trans t3, ⟨v2, t4.fx f⟩⟩
    · show DBc s' (gowe (yg (vy w)) (yd (vy w)) (uo (yu (vy w) q)) (p - 1)) (yd (yow (vy w) i (uo (yu (vy w) q)) (p - 1)))
      rw [hy]
      refine ⟨by rw [hs', gI_sI, if_pos rfl], fun j hj => ?_⟩
      rw [e16, e17, hgd, hgb]
      by_cases e : j = d
      · rw [if_pos e, if_pos e, if_pos e, if_pos e]; exact ⟨rfl, rfl⟩
      · rw [if_neg e, if_neg e, if_neg e, if_neg e]
        exact c4.2 j (by omega)
    · show DBg (gowe (yg (vy w)) (yd (vy w)) (uo (yu (vy w) q)) (p - 1)) (vn w) (yd (yow (vy w) i (uo (yu (vy w) q)) (p - 1)))
      rw [hy]
      refine ⟨by omega, fun j hj => ?_⟩
      rw [hgd, hgb]
      by_cases e : j = d
      · rw [if_pos e, if_pos e]; omega
      · rw [if_neg e, if_neg e]
        exact g3.2 j (by omega)
theorem W_answer_x (H : CV s w) {i : Nat} (hi : i < yc (vy w)) (h : ¬ i < yw (vy w) ∨ xa (ya (vy w)) i = 1) {vx : Int32} : f_P_answer F Z s (io i) vx = xz Z s 1 := by
  obtain ⟨c1, c2, c3, c4⟩ := H.c
  obtain ⟨e19, e20, e23, e4⟩ := H.al hi
  have hpw := W_waits (F := F) H hi
  by_cases hw : i < yw (vy w)
  · have ha := h.resolve_left (fun c => c hw)
    rw [if_pos hw] at hpw
    rw [ha] at e23
    simp (disch := omega) only [f_P_answer, Option.bind_some, Nat.reduceEqDiff, Nat.add_zero, Nat.zero_add, Nat.reduceLT, Nat.reduceLeDiff, Nat.reduceAdd, Nat.reduceSub, Nat.reduceMul, Nat.reduceDiv, Nat.lt_irrefl, Nat.not_lt_zero, Nat.zero_le, Nat.one_ne_zero, Nat.succ_ne_zero,  lt_def, i32_lit, reduceIte, P_isIn_eq, or_false, false_or, or_true, true_or, and_true, true_and, and_false, false_and, not_true, not_false_eq_true, eq_self, if_true, if_false, not_or, not_and, Nat.not_lt, Nat.not_le, W_has H hi, io_eq, hpw, ix_io, e23]
  · rw [if_neg hw] at hpw
    simp (disch := omega) only [f_P_answer, Option.bind_some, Nat.reduceEqDiff, Nat.add_zero, Nat.zero_add, Nat.reduceLT, Nat.reduceLeDiff, Nat.reduceAdd, Nat.reduceSub, Nat.reduceMul, Nat.reduceDiv, Nat.lt_irrefl, Nat.not_lt_zero, Nat.zero_le, Nat.one_ne_zero, Nat.succ_ne_zero,  lt_def, i32_lit, reduceIte, P_isIn_eq, or_false, false_or, or_true, true_or, and_true, true_and, and_false, false_and, not_true, not_false_eq_true, eq_self, if_true, if_false, not_or, not_and, Nat.not_lt, Nat.not_le, W_has H hi, io_eq, hpw]
end WA
