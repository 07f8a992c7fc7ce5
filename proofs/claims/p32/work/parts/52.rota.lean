/-! people, days off, swaps, logs -/
def yg' (y : GS) (g : RG) : GS := (yh y, g, yd y, ya y, yc y, yw y, yu y)
theorem ROg.pp {g : RG} {h n : Nat} (G : ROg g h n) {n' : Nat} (hn : n ≤ n') : ROg g h n' := fun j hj => by
  obtain ⟨a, b, c, d⟩ := G j hj
  exact ⟨a.mono hn, b, c.mono hn, d⟩
theorem GF.pp {L : Nat → LR} {m n R : Nat} {y : GS} (G : GF L m n R y) : GF L m (n + 1) R y := by
  obtain ⟨g1, g2, g3, g4, g5, g6, g7, g8, g9⟩ := G
  refine ⟨g1, g2.pp (Nat.le_succ n), ⟨g3.1, fun i hi => ?_⟩, ⟨g4.1, g4.2.1, g4.2.2.1, fun i hi => ?_⟩, g5, g6.pp (Nat.le_succ n), g7, g8, g9⟩
  · have := g3.2 i hi; omega
  · obtain ⟨a1, a2, a3, a4, a5⟩ := g4.2.2.2 i hi
    exact ⟨a1, a2, a3, a4, a5.elim (fun ⟨b1, b2, b3, b4⟩ => Or.inl ⟨b1, b2, by omega, b4⟩) Or.inr⟩
section WP
variable {F Z : Nat} {s : St} {w : WD}
theorem W_addPerson (H : CV s w) (h8 : vn w < 8) : f_P_addPerson F Z s = some (.inl (io (vn w)), sI s 768 (io (vn w + 1))) ∧ CV (sI s 768 (io (vn w + 1))) (vy w, vL w, vm w, vn w + 1, vR w, vt w, vk w) ∧ KA s (sI s 768 (io (vn w + 1))) := by
  have hn := H.n
  obtain ⟨⟨c1, c2, c3, c4, c5, c6, c7, c8⟩, g, hn8, t1, t2, t3, t4⟩ := H
  have f : FX [768] [] s (sI s 768 (io (vn w + 1))) := Fr.fx (Fr.rf.I (by decide))
  have fy := f.swD
  refine ⟨?_, ⟨⟨c1, ⟨h8, rfl⟩, c3.fy fy, c4.fy fy, c5.fy fy, c6.fx f, c7.fx f, c8⟩, g.pp, h8, t1, t2, t3, t4⟩, KA.fx f⟩
  simp (disch := omega) only [f_P_addPerson, Option.bind_some, Nat.reduceEqDiff, Nat.add_zero, Nat.zero_add, Nat.reduceLT, Nat.reduceLeDiff, Nat.reduceAdd, Nat.reduceSub, Nat.reduceMul, Nat.reduceDiv, Nat.lt_irrefl, Nat.not_lt_zero, Nat.zero_le, Nat.one_ne_zero, Nat.succ_ne_zero,  lt_def, i32_lit, reduceIte, P_isIn_eq, or_false, false_or, or_true, true_or, and_true, true_and, and_false, false_and, not_true, not_false_eq_true, eq_self, if_true, if_false, not_or, not_and, Nat.not_lt, Nat.not_le, io_lt, io_le, io_eq, io_neg1, io_neg1', neg1_lt, io_le_neg1, io_lt_neg1, io_add, io_mul, io_pred, io_modE, natMod, io_sub, io_div, ix_io, gI_sI, gI_sA, gI_sL, gI_sJ, gI_sR, gI_sQ, gI_sD, gI_sN, gI_sz, gA_sI, gA_sA, gA_sL, gA_sJ, gA_sR, gA_sQ, gA_sD, gA_sN, gA_sz, gL_sI, gL_sA, gL_sL, gL_sJ, gL_sR, gL_sQ, gL_sD, gL_sN, gL_sz, gJ_sI, gJ_sA, gJ_sL, gJ_sJ, gJ_sR, gJ_sQ, gJ_sD, gJ_sN, gJ_sz, gR_sI, gR_sA, gR_sL, gR_sJ, gR_sR, gR_sQ, gR_sD, gR_sN, gR_sz, gQ_sI, gQ_sA, gQ_sL, gQ_sJ, gQ_sR, gQ_sQ, gQ_sD, gQ_sN, gQ_sz, gD_sI, gD_sA, gD_sL, gD_sJ, gD_sR, gD_sQ, gD_sD, gD_sN, gD_sz, sz_sI, sz_sA, sz_sL, sz_sJ, sz_sR, sz_sQ, sz_sD, sz_sN, sz_sz, hn.1, h8, Nat.add_sub_cancel]
/-- a day off, or no more -/
def goff (g : RG) (p j : Nat) : RG := (gsw g, ups (gof g) j (gof g j ^^^ 2 ^ p), gho g, gda g, gdb g)
theorem W_off (H : CV s w) {p j : Nat} (hp : p < vn w) (h1 : yh (vy w) / 8 < j) (h2 : j < 126) : ∃ s', f_P_off F Z s (io p) (io j) = some (.inl (io (if (gof (yg (vy w)) j ^^^ 2 ^ p).testBit p then 1 else 0)), s') ∧ CV s' (yg' (vy w) (goff (yg (vy w)) p j), vL w, vm w, vn w, vR w, vt w, vk w) ∧ KA s s' := by
  have H0 := H
  have hn := H.n
  obtain ⟨⟨c1, c2, c3, c4, c5, c6, c7, c8⟩, g, hn8, t1, t2, t3, t4⟩ := H
  obtain ⟨o1, o2, o3⟩ := c3 j h2
  obtain ⟨q1, q2, q3, q4⟩ := g.2.1 j h2
  generalize hv : gof (yg (vy w)) j = v at o2 q2
  have hw : v ^^^ 2 ^ p < 256 := Nat.xor_lt_two_pow (n := 8) q2 (pow_lt8 (by omega))
  have hws : (v ^^^ 2 ^ p) >>> p ≤ v ^^^ 2 ^ p := Nat.shiftRight_le _ p
  have f : FX [] [14] s (sA s 14 j (io (v ^^^ 2 ^ p))) := Fr.fx (Fr.rf.A (by decide))
  have fy := f.swD
  have n0 : ¬ j < 0 := by omega
  have n2 : ¬ 125 < j := by omega
  have hpp : io 0 ≤ io p ∧ io p < io (vn w) := ⟨by rw [io_le (by omega) (by omega)]; omega, by rw [io_lt (by omega) (by omega)]; omega⟩
  have hcc : io (yh (vy w) / 8) < io j ∧ io j < io 126 := ⟨by rw [io_lt (by omega) (by omega)]; omega, by rw [io_lt (by omega) (by omega)]; omega⟩
  refine ⟨sA s 14 j (io (v ^^^ 2 ^ p)), ?_, ⟨⟨c1, c2.fy fy, fun i hi => ?_, c4.fy fy, c5.fy fy, c6.fx f, c7.fx f, c8⟩, ?_, hn8, t1, t2, t3, t4⟩, KA.fx f⟩
  · have hh : f_P_off F Z s (io p) (io j) = (f_Rota_turnOff F s (io p) (io j)).bind fun x3 => ((f_Rota_isOff F x3 (io p) (io j)).bind fun x4 => (if x4.1 = 0 ∨ x4.1 = 1 then (some (.inl x4.1, x4.2)) else none)) := by
      unfold f_P_off
      rw [W_person H0, if_pos hpp]
      simp (disch := omega) only [Option.bind_some, Nat.reduceEqDiff, Nat.add_zero, Nat.zero_add, Nat.reduceLT, Nat.reduceLeDiff, Nat.reduceAdd, Nat.reduceSub, Nat.reduceMul, Nat.reduceDiv, Nat.lt_irrefl, Nat.not_lt_zero, Nat.zero_le, Nat.one_ne_zero, Nat.succ_ne_zero,  lt_def, i32_lit, reduceIte, P_isIn_eq, or_false, false_or, or_true, true_or, and_true, true_and, and_false, false_and, not_true, not_false_eq_true, eq_self, if_true, if_false, not_or, not_and, Nat.not_lt, Nat.not_le, io_eq, W_toCome H0, hcc]
    rw [hh]
    by_cases hb : (v ^^^ 2 ^ p).testBit p = true
    · simp (disch := omega) only [f_Rota_turnOff, f_Rota_isOff, Option.bind_some, Nat.reduceEqDiff, Nat.add_zero, Nat.zero_add, Nat.reduceLT, Nat.reduceLeDiff, Nat.reduceAdd, Nat.reduceSub, Nat.reduceMul, Nat.reduceDiv, Nat.lt_irrefl, Nat.not_lt_zero, Nat.zero_le, Nat.one_ne_zero, Nat.succ_ne_zero,  lt_def, i32_lit, reduceIte, P_isIn_eq, or_false, false_or, or_true, true_or, and_true, true_and, and_false, false_and, not_true, not_false_eq_true, eq_self, if_true, if_false, not_or, not_and, Nat.not_lt, Nat.not_le, io_lt, io_le, io_eq, io_neg1, io_neg1', neg1_lt, io_le_neg1, io_lt_neg1, io_add, io_mul, io_pred, io_modE, natMod, io_sub, io_div, ix_io, gI_sI, gI_sA, gI_sL, gI_sJ, gI_sR, gI_sQ, gI_sD, gI_sN, gI_sz, gA_sI, gA_sA, gA_sL, gA_sJ, gA_sR, gA_sQ, gA_sD, gA_sN, gA_sz, gL_sI, gL_sA, gL_sL, gL_sJ, gL_sR, gL_sQ, gL_sD, gL_sN, gL_sz, gJ_sI, gJ_sA, gJ_sL, gJ_sJ, gJ_sR, gJ_sQ, gJ_sD, gJ_sN, gJ_sz, gR_sI, gR_sA, gR_sL, gR_sJ, gR_sR, gR_sQ, gR_sD, gR_sN, gR_sz, gQ_sI, gQ_sA, gQ_sL, gQ_sJ, gQ_sR, gQ_sQ, gQ_sD, gQ_sN, gQ_sz, gD_sI, gD_sA, gD_sL, gD_sJ, gD_sR, gD_sQ, gD_sD, gD_sN, gD_sz, sz_sI, sz_sA, sz_sL, sz_sJ, sz_sR, sz_sQ, sz_sD, sz_sN, sz_sz, n0, n2, o2, io_shl, io_xor, io_shr, io_and, and31, one_shl, bit_tb, hb]
    · simp (disch := omega) only [f_Rota_turnOff, f_Rota_isOff, Option.bind_some, Nat.reduceEqDiff, Nat.add_zero, Nat.zero_add, Nat.reduceLT, Nat.reduceLeDiff, Nat.reduceAdd, Nat.reduceSub, Nat.reduceMul, Nat.reduceDiv, Nat.lt_irrefl, Nat.not_lt_zero, Nat.zero_le, Nat.one_ne_zero, Nat.succ_ne_zero,  lt_def, i32_lit, reduceIte, P_isIn_eq, or_false, false_or, or_true, true_or, and_true, true_and, and_false, false_and, not_true, not_false_eq_true, eq_self, if_true, if_false, not_or, not_and, Nat.not_lt, Nat.not_le, io_lt, io_le, io_eq, io_neg1, io_neg1', neg1_lt, io_le_neg1, io_lt_neg1, io_add, io_mul, io_pred, io_modE, natMod, io_sub, io_div, ix_io, gI_sI, gI_sA, gI_sL, gI_sJ, gI_sR, gI_sQ, gI_sD, gI_sN, gI_sz, gA_sI, gA_sA, gA_sL, gA_sJ, gA_sR, gA_sQ, gA_sD, gA_sN, gA_sz, gL_sI, gL_sA, gL_sL, gL_sJ, gL_sR, gL_sQ, gL_sD, gL_sN, gL_sz, gJ_sI, gJ_sA, gJ_sL, gJ_sJ, gJ_sR, gJ_sQ, gJ_sD, gJ_sN, gJ_sz, gR_sI, gR_sA, gR_sL, gR_sJ, gR_sR, gR_sQ, gR_sD, gR_sN, gR_sz, gQ_sI, gQ_sA, gQ_sL, gQ_sJ, gQ_sR, gQ_sQ, gQ_sD, gQ_sN, gQ_sz, gD_sI, gD_sA, gD_sL, gD_sJ, gD_sR, gD_sQ, gD_sD, gD_sN, gD_sz, sz_sI, sz_sA, sz_sL, sz_sJ, sz_sR, sz_sQ, sz_sD, sz_sN, sz_sz, n0, n2, o2, io_shl, io_xor, io_shr, io_and, and31, one_shl, bit_tb, hb, Bool.false_eq_true]
  · obtain ⟨r1, r2, r3⟩ := c3 i hi
    refine ⟨r1, ?_, r3⟩
    show gA (sA s 14 j (io (v ^^^ 2 ^ p))) 14 i = io (ups (gof (yg (vy w))) j (gof (yg (vy w)) j ^^^ 2 ^ p) i)
    rw [gA_sA, if_pos rfl]
    unfold ups
    by_cases e : i = j
    · rw [if_pos e, if_pos e, hv]
    · rw [if_neg e, if_neg e]; exact r2
  · obtain ⟨g1, g2, g3, g4, g5, g6, g7, g8, g9⟩ := g
    refine ⟨g1, fun i hi => ?_, g3, g4, g5, g6, g7, g8, g9⟩
    obtain ⟨r1, r2, r3, r4⟩ := g2 i hi
    refine ⟨r1, ?_, r3, r4⟩
    show ups (gof (yg (vy w))) j (gof (yg (vy w)) j ^^^ 2 ^ p) i < 256
    unfold ups
    by_cases e : i = j
    · rw [if_pos e, hv]; exact hw
    · rw [if_neg e]; exact r2
theorem W_off_x2 (H : CV s w) {x y : Int32} (h : ¬ (io 0 ≤ x ∧ x < io (vn w))) : f_P_off F Z s x y = xz Z s 2 := by
  unfold f_P_off
  rw [W_person H, if_neg h]
  simp (disch := omega) only [Option.bind_some, Nat.reduceEqDiff, Nat.add_zero, Nat.zero_add, Nat.reduceLT, Nat.reduceLeDiff, Nat.reduceAdd, Nat.reduceSub, Nat.reduceMul, Nat.reduceDiv, Nat.lt_irrefl, Nat.not_lt_zero, Nat.zero_le, Nat.one_ne_zero, Nat.succ_ne_zero,  lt_def, i32_lit, reduceIte, P_isIn_eq, or_false, false_or, or_true, true_or, and_true, true_and, and_false, false_and, not_true, not_false_eq_true, eq_self, if_true, if_false, not_or, not_and, Nat.not_lt, Nat.not_le]
theorem W_off_x0 (H : CV s w) {p : Nat} {y : Int32} (hp : p < vn w) (h : ¬ (io (yh (vy w) / 8) < y ∧ y < io 126)) : f_P_off F Z s (io p) y = xz Z s 0 := by
  have hn := H.n.2
  unfold f_P_off
  rw [W_person H, if_pos ⟨by rw [io_le (by omega) (by omega)]; omega, by rw [io_lt (by omega) (by omega)]; omega⟩]
  simp (disch := omega) only [Option.bind_some, Nat.reduceEqDiff, Nat.add_zero, Nat.zero_add, Nat.reduceLT, Nat.reduceLeDiff, Nat.reduceAdd, Nat.reduceSub, Nat.reduceMul, Nat.reduceDiv, Nat.lt_irrefl, Nat.not_lt_zero, Nat.zero_le, Nat.one_ne_zero, Nat.succ_ne_zero,  lt_def, i32_lit, reduceIte, P_isIn_eq, or_false, false_or, or_true, true_or, and_true, true_and, and_false, false_and, not_true, not_false_eq_true, eq_self, if_true, if_false, not_or, not_and, Nat.not_lt, Nat.not_le, io_eq, W_toCome H, h]
/-- a swap -/
def gswp (g : RG) (i j a b : Nat) : RG := (ups (ups (gsw g) i (io b)) j (io a), gof g, gho g, gda g, gdb g)
theorem W_swap (H : CV s w) {i j a b : Nat} (hi : yh (vy w) / 8 < i) (hi2 : i < 126) (hj : yh (vy w) / 8 < j) (hj2 : j < 126) (hij : i ≠ j) (ha : a < vn w) (hb : b < vn w) (e1 : plan2 (yg (vy w)) (vn w) i = io a) (e2 : plan2 (yg (vy w)) (vn w) j = io b) (hab : a ≠ b) (o1 : ofb (yg (vy w)) a j = io 0) (o2 : ofb (yg (vy w)) b i = io 0) :
    ∃ s', f_P_swap F Z s (io i) (io j) = some (.inl (), s') ∧ CV s' (yg' (vy w) (gswp (yg (vy w)) i j a b), vL w, vm w, vn w, vR w, vt w, vk w) ∧ KA s s' := by
  have H0 := H
  have hn := H.n.2
  obtain ⟨⟨c1, c2, c3, c4, c5, c6, c7, c8⟩, g, hn8, t1, t2, t3, t4⟩ := H
  have f : FX [] [13] s (sA (sA s 13 i (io b)) 13 j (io a)) := Fr.fx ((Fr.rf.A (by decide)).A (by decide))
  have fy := f.swD
  have p1 := P_plan2 (F := F) (h := 0) c2 c3 hi2
  have p2 := P_plan2 (F := F) (h := 0) c2 c3 hj2
  have u1 := P_isOff2 (F := F) c3 g.2.1 (show a < 8 by omega) hj2
  have u2 := P_isOff2 (F := F) c3 g.2.1 (show b < 8 by omega) hi2
  rw [e1] at p1
  rw [e2] at p2
  rw [o1] at u1
  rw [o2] at u2
  have n1 : ¬ 125 < i := by omega
  have n2 : ¬ 125 < j := by omega
  have n3 : ¬ i < 0 := by omega
  have n4 : ¬ j < 0 := by omega
  have t0 : io (yh (vy w) / 8) < io i ∧ io i < io 126 := ⟨by rw [io_lt (by omega) (by omega)]; omega, by rw [io_lt (by omega) (by omega)]; omega⟩
  have t00 : io (yh (vy w) / 8) < io j ∧ io j < io 126 := ⟨by rw [io_lt (by omega) (by omega)]; omega, by rw [io_lt (by omega) (by omega)]; omega⟩
  refine ⟨sA (sA s 13 i (io b)) 13 j (io a), ?_, ⟨⟨c1, c2.fy fy, fun x hx => ?_, c4.fy fy, c5.fy fy, c6.fx f, c7.fx f, c8⟩, ?_, hn8, t1, t2, t3, t4⟩, KA.fx f⟩
  · unfold f_P_swap
    rw [W_toCome H0, if_pos t0]
    simp (disch := omega) only [Option.bind_some, Nat.reduceEqDiff, Nat.add_zero, Nat.zero_add, Nat.reduceLT, Nat.reduceLeDiff, Nat.reduceAdd, Nat.reduceSub, Nat.reduceMul, Nat.reduceDiv, Nat.lt_irrefl, Nat.not_lt_zero, Nat.zero_le, Nat.one_ne_zero, Nat.succ_ne_zero,  lt_def, i32_lit, reduceIte, P_isIn_eq, or_false, false_or, or_true, true_or, and_true, true_and, and_false, false_and, not_true, not_false_eq_true, eq_self, if_true, if_false, not_or, not_and, Nat.not_lt, Nat.not_le, io_eq, W_toCome H0, t00, hij, p1, p2, hab, u1, u2, f_Rota_give, io_lt, n1, n2, n3, n4, ix_io]
  · obtain ⟨r1, r2, r3⟩ := c3 x hx
    refine ⟨?_, r2, r3⟩
    show gA (sA (sA s 13 i (io b)) 13 j (io a)) 13 x = ups (ups (gsw (yg (vy w))) i (io b)) j (io a) x
    rw [gA_sA, if_pos rfl, gA_sA, if_pos rfl]
    unfold ups
    by_cases ej : x = j
    · rw [if_pos ej, if_pos ej]
    · rw [if_neg ej, if_neg ej]
      by_cases ei : x = i
      · rw [if_pos ei, if_pos ei]
      · rw [if_neg ei, if_neg ei]; exact r1
  · obtain ⟨g1, g2, g3, g4, g5, g6, g7, g8, g9⟩ := g
    refine ⟨g1, fun x hx => ?_, g3, g4, g5, g6, g7, g8, g9⟩
    obtain ⟨r1, r2, r3, r4⟩ := g2 x hx
    refine ⟨?_, r2, r3, r4⟩
    show nob (vn w) (ups (ups (gsw (yg (vy w))) i (io b)) j (io a) x)
    unfold ups
    by_cases ej : x = j
    · rw [if_pos ej]; exact Or.inr ⟨a, ha, rfl⟩
    · rw [if_neg ej]
      by_cases ei : x = i
      · rw [if_pos ei]; exact Or.inr ⟨b, hb, rfl⟩
      · rw [if_neg ei]; exact r1
theorem W_swap_x0 (H : CV s w) {x y : Int32} (h : ¬ (io (yh (vy w) / 8) < x ∧ x < io 126) ∨ ¬ (io (yh (vy w) / 8) < y ∧ y < io 126) ∨ x = y) : f_P_swap F Z s x y = xz Z s 0 := by
  unfold f_P_swap
  rw [W_toCome H]
  by_cases h1 : io (yh (vy w) / 8) < x ∧ x < io 126
  · rw [if_pos h1]
    by_cases h2 : io (yh (vy w) / 8) < y ∧ y < io 126
    · have h3 : x = y := (h.resolve_left (fun c => c h1)).resolve_left (fun c => c h2)
      simp (disch := omega) only [Option.bind_some, Nat.reduceEqDiff, Nat.add_zero, Nat.zero_add, Nat.reduceLT, Nat.reduceLeDiff, Nat.reduceAdd, Nat.reduceSub, Nat.reduceMul, Nat.reduceDiv, Nat.lt_irrefl, Nat.not_lt_zero, Nat.zero_le, Nat.one_ne_zero, Nat.succ_ne_zero,  lt_def, i32_lit, reduceIte, P_isIn_eq, or_false, false_or, or_true, true_or, and_true, true_and, and_false, false_and, not_true, not_false_eq_true, eq_self, if_true, if_false, not_or, not_and, Nat.not_lt, Nat.not_le, io_eq, W_toCome H, h2, h3]
    · simp (disch := omega) only [Option.bind_some, Nat.reduceEqDiff, Nat.add_zero, Nat.zero_add, Nat.reduceLT, Nat.reduceLeDiff, Nat.reduceAdd, Nat.reduceSub, Nat.reduceMul, Nat.reduceDiv, Nat.lt_irrefl, Nat.not_lt_zero, Nat.zero_le, Nat.one_ne_zero, Nat.succ_ne_zero,  lt_def, i32_lit, reduceIte, P_isIn_eq, or_false, false_or, or_true, true_or, and_true, true_and, and_false, false_and, not_true, not_false_eq_true, eq_self, if_true, if_false, not_or, not_and, Nat.not_lt, Nat.not_le, io_eq, W_toCome H, h2]
  · rw [if_neg h1]
    simp (disch := omega) only [Option.bind_some, Nat.reduceEqDiff, Nat.add_zero, Nat.zero_add, Nat.reduceLT, Nat.reduceLeDiff, Nat.reduceAdd, Nat.reduceSub, Nat.reduceMul, Nat.reduceDiv, Nat.lt_irrefl, Nat.not_lt_zero, Nat.zero_le, Nat.one_ne_zero, Nat.succ_ne_zero,  lt_def, i32_lit, reduceIte, P_isIn_eq, or_false, false_or, or_true, true_or, and_true, true_and, and_false, false_and, not_true, not_false_eq_true, eq_self, if_true, if_false, not_or, not_and, Nat.not_lt, Nat.not_le]
theorem W_swap_x1 (H : CV s w) {i j : Nat} (hi : yh (vy w) / 8 < i) (hi2 : i < 126) (hj : yh (vy w) / 8 < j) (hj2 : j < 126) (hij : i ≠ j)
    (h : vn w = 0 ∨ ∃ a b, a < vn w ∧ b < vn w ∧ plan2 (yg (vy w)) (vn w) i = io a ∧ plan2 (yg (vy w)) (vn w) j = io b ∧ (a = b ∨ ofb (yg (vy w)) a j = io 1 ∨ ofb (yg (vy w)) b i = io 1)) : f_P_swap F Z s (io i) (io j) = xz Z s 1 := by
  have H0 := H
  have hn := H.n.2
  obtain ⟨⟨c1, c2, c3, c4, c5, c6, c7, c8⟩, g, hn8, t1, t2, t3, t4⟩ := H
  have p1 := P_plan2 (F := F) (h := 0) c2 c3 hi2
  have p2 := P_plan2 (F := F) (h := 0) c2 c3 hj2
  have t0 : io (yh (vy w) / 8) < io i ∧ io i < io 126 := ⟨by rw [io_lt (by omega) (by omega)]; omega, by rw [io_lt (by omega) (by omega)]; omega⟩
  have t00 : io (yh (vy w) / 8) < io j ∧ io j < io 126 := ⟨by rw [io_lt (by omega) (by omega)]; omega, by rw [io_lt (by omega) (by omega)]; omega⟩
  unfold f_P_swap
  rw [W_toCome H0, if_pos t0]
  rcases h with h0 | ⟨a, b, ha, hb, e1, e2, h⟩
  · have e : ∀ x, plan2 (yg (vy w)) (vn w) x = -io 1 := fun x => by unfold plan2; rw [if_pos h0]
    rw [e] at p1 p2
    simp (disch := omega) only [Option.bind_some, Nat.reduceEqDiff, Nat.add_zero, Nat.zero_add, Nat.reduceLT, Nat.reduceLeDiff, Nat.reduceAdd, Nat.reduceSub, Nat.reduceMul, Nat.reduceDiv, Nat.lt_irrefl, Nat.not_lt_zero, Nat.zero_le, Nat.one_ne_zero, Nat.succ_ne_zero,  lt_def, i32_lit, reduceIte, P_isIn_eq, or_false, false_or, or_true, true_or, and_true, true_and, and_false, false_and, not_true, not_false_eq_true, eq_self, if_true, if_false, not_or, not_and, Nat.not_lt, Nat.not_le, io_eq, W_toCome H0, t00, hij, p1, p2]
  · have u1 := P_isOff2 (F := F) c3 g.2.1 (show a < 8 by omega) hj2
    have u2 := P_isOff2 (F := F) c3 g.2.1 (show b < 8 by omega) hi2
    rw [e1] at p1
    rw [e2] at p2
    by_cases hab : a = b
    · simp (disch := omega) only [Option.bind_some, Nat.reduceEqDiff, Nat.add_zero, Nat.zero_add, Nat.reduceLT, Nat.reduceLeDiff, Nat.reduceAdd, Nat.reduceSub, Nat.reduceMul, Nat.reduceDiv, Nat.lt_irrefl, Nat.not_lt_zero, Nat.zero_le, Nat.one_ne_zero, Nat.succ_ne_zero,  lt_def, i32_lit, reduceIte, P_isIn_eq, or_false, false_or, or_true, true_or, and_true, true_and, and_false, false_and, not_true, not_false_eq_true, eq_self, if_true, if_false, not_or, not_and, Nat.not_lt, Nat.not_le, io_eq, W_toCome H0, t00, hij, p1, p2, hab]
    · rcases ofb_or (yg (vy w)) a j with q1 | q1
      · rw [q1] at u1 h
        have q2 : ofb (yg (vy w)) b i = io 1 := by
          rcases h with h | h | h
          · exact absurd h hab
          · exact absurd h (by decide)
          · exact h
        rw [q2] at u2
        simp (disch := omega) only [Option.bind_some, Nat.reduceEqDiff, Nat.add_zero, Nat.zero_add, Nat.reduceLT, Nat.reduceLeDiff, Nat.reduceAdd, Nat.reduceSub, Nat.reduceMul, Nat.reduceDiv, Nat.lt_irrefl, Nat.not_lt_zero, Nat.zero_le, Nat.one_ne_zero, Nat.succ_ne_zero,  lt_def, i32_lit, reduceIte, P_isIn_eq, or_false, false_or, or_true, true_or, and_true, true_and, and_false, false_and, not_true, not_false_eq_true, eq_self, if_true, if_false, not_or, not_and, Nat.not_lt, Nat.not_le, io_eq, W_toCome H0, t00, hij, p1, p2, hab, u1, u2]
      · rw [q1] at u1
        simp (disch := omega) only [Option.bind_some, Nat.reduceEqDiff, Nat.add_zero, Nat.zero_add, Nat.reduceLT, Nat.reduceLeDiff, Nat.reduceAdd, Nat.reduceSub, Nat.reduceMul, Nat.reduceDiv, Nat.lt_irrefl, Nat.not_lt_zero, Nat.zero_le, Nat.one_ne_zero, Nat.succ_ne_zero,  lt_def, i32_lit, reduceIte, P_isIn_eq, or_false, false_or, or_true, true_or, and_true, true_and, and_false, false_and, not_true, not_false_eq_true, eq_self, if_true, if_false, not_or, not_and, Nat.not_lt, Nat.not_le, io_eq, W_toCome H0, t00, hij, p1, p2, hab, u1]
/-- a log -/
def wlog (w : WD) (p l : Nat) (v : Int32) (hr : Nat) : WD := (vy w, lins (vL w) (lplace (vL w) (vm w) hr) (p, l, v, hr, yh (vy w), vm w), vm w + 1, vn w, vR w, vt w, vk w)
theorem W_log (hF : 5000 ≤ F) (H : CV s w) {p l hr : Nat} {v : Int32} (hp : p ≤ 7) (hl : l ≤ 5) (hv1 : -1000 ≤ v.toInt) (hv2 : v.toInt ≤ 1000) (hhr : hr ≤ yh (vy w)) (hm : vm w < 100) :
    ∃ s', f_P_log F Z s (io p) (io l) v (io hr) = some (.inl (io (vm w)), s') ∧ CV s' (wlog w p l v hr) ∧ KA s s' := by
  have H0 := H
  obtain ⟨⟨c1, c2, c3, c4, c5, c6, c7, c8⟩, g, hn8, t1, t2, t3, t4⟩ := H
  have LG : LGg (vL w) (vm w) (yh (vy w)) := g.2.2.2.2.2.2.2.2
  obtain ⟨s', q1, q2, q3⟩ := P_logAdd (F := F) hF (p := p) (l := l) (v := v) g.1 hhr hm c7 LG
  have f := q3.fx
  have fy := f.swD
  obtain ⟨vs, h8⟩ := c8
  obtain ⟨us, h9⟩ := t4
  have n3 : ¬ (v < -io 1000 ∨ io 1000 < v) := by
    intro h
    have e : (-io 1000).toInt = -1000 := by decide
    rcases h with h | h
    · rw [Int32.lt_iff_toInt_lt, e] at h; omega
    · rw [Int32.lt_iff_toInt_lt, io_toInt (by omega)] at h; omega
  have m1 : ¬ 7 < p := by omega
  have m2 : ¬ 5 < l := by omega
  have m4 : ¬ yh (vy w) < hr := by omega
  have hh : yh (vy w) ≤ 1000 := g.1
  refine ⟨s', ?_, ⟨⟨(f.1 2 (by decide)).trans c1, c2.fy fy, c3.fy fy, c4.fy fy, c5.fy fy, c6.fx f, q2, ⟨vs, h8.fx f⟩⟩, ?_, hn8, t1, fun k hk => ?_, (f.1 1 (by decide)).trans t3, ⟨us, h9.fx f⟩⟩, KA.fx f⟩
  · simp (disch := omega) only [f_P_log, Option.bind_some, Nat.reduceEqDiff, Nat.add_zero, Nat.zero_add, Nat.reduceLT, Nat.reduceLeDiff, Nat.reduceAdd, Nat.reduceSub, Nat.reduceMul, Nat.reduceDiv, Nat.lt_irrefl, Nat.not_lt_zero, Nat.zero_le, Nat.one_ne_zero, Nat.succ_ne_zero,  lt_def, i32_lit, reduceIte, P_isIn_eq, or_false, false_or, or_true, true_or, and_true, true_and, and_false, false_and, not_true, not_false_eq_true, eq_self, if_true, if_false, not_or, not_and, Nat.not_lt, Nat.not_le, c1, m1, m2, n3, m4, io_eq, io_lt, c7.1, hm, q1]
  · obtain ⟨g1, g2, g3, g4, g5, g6, g7, g8, g9⟩ := g
    refine ⟨g1, g2, g3, g4, g5, g6, ?_, g8, ?_⟩
    · exact g7.late g6 (lplace_le _ _ _) rfl
    · exact g9.ins hm (r := (p, l, v, hr, yh (vy w), vm w)) ⟨hp, hl, hv1, hv2, hhr, Nat.le_refl _, Nat.lt_succ_self _⟩
  · rw [f.2.1 1 (by decide)]; exact t2 k hk
theorem W_log_x (H : CV s w) {a1 a2 a3 a4 : Int32} (h : (a1 < io 0 ∨ io 7 < a1) ∨ (a2 < io 0 ∨ io 5 < a2) ∨ (a3 < -io 1000 ∨ io 1000 < a3) ∨ (a4 < io 0 ∨ io (yh (vy w)) < a4)) : f_P_log F Z s a1 a2 a3 a4 = xz Z s 0 := by
  have e1 := H.h.1
  by_cases n1 : a1 < io 0 ∨ io 7 < a1
  · simp (disch := omega) only [f_P_log, Option.bind_some, Nat.reduceEqDiff, Nat.add_zero, Nat.zero_add, Nat.reduceLT, Nat.reduceLeDiff, Nat.reduceAdd, Nat.reduceSub, Nat.reduceMul, Nat.reduceDiv, Nat.lt_irrefl, Nat.not_lt_zero, Nat.zero_le, Nat.one_ne_zero, Nat.succ_ne_zero,  lt_def, i32_lit, reduceIte, P_isIn_eq, or_false, false_or, or_true, true_or, and_true, true_and, and_false, false_and, not_true, not_false_eq_true, eq_self, if_true, if_false, not_or, not_and, Nat.not_lt, Nat.not_le, n1]
  · by_cases n2 : a2 < io 0 ∨ io 5 < a2
    · simp (disch := omega) only [f_P_log, Option.bind_some, Nat.reduceEqDiff, Nat.add_zero, Nat.zero_add, Nat.reduceLT, Nat.reduceLeDiff, Nat.reduceAdd, Nat.reduceSub, Nat.reduceMul, Nat.reduceDiv, Nat.lt_irrefl, Nat.not_lt_zero, Nat.zero_le, Nat.one_ne_zero, Nat.succ_ne_zero,  lt_def, i32_lit, reduceIte, P_isIn_eq, or_false, false_or, or_true, true_or, and_true, true_and, and_false, false_and, not_true, not_false_eq_true, eq_self, if_true, if_false, not_or, not_and, Nat.not_lt, Nat.not_le, n1, n2, io_eq]
    · by_cases n3 : a3 < -io 1000 ∨ io 1000 < a3
      · simp (disch := omega) only [f_P_log, Option.bind_some, Nat.reduceEqDiff, Nat.add_zero, Nat.zero_add, Nat.reduceLT, Nat.reduceLeDiff, Nat.reduceAdd, Nat.reduceSub, Nat.reduceMul, Nat.reduceDiv, Nat.lt_irrefl, Nat.not_lt_zero, Nat.zero_le, Nat.one_ne_zero, Nat.succ_ne_zero,  lt_def, i32_lit, reduceIte, P_isIn_eq, or_false, false_or, or_true, true_or, and_true, true_and, and_false, false_and, not_true, not_false_eq_true, eq_self, if_true, if_false, not_or, not_and, Nat.not_lt, Nat.not_le, n1, n2, n3, io_eq]
      · have n4 := ((h.resolve_left n1).resolve_left n2).resolve_left n3
        simp (disch := omega) only [f_P_log, Option.bind_some, Nat.reduceEqDiff, Nat.add_zero, Nat.zero_add, Nat.reduceLT, Nat.reduceLeDiff, Nat.reduceAdd, Nat.reduceSub, Nat.reduceMul, Nat.reduceDiv, Nat.lt_irrefl, Nat.not_lt_zero, Nat.zero_le, Nat.one_ne_zero, Nat.succ_ne_zero,  lt_def, i32_lit, reduceIte, P_isIn_eq, or_false, false_or, or_true, true_or, and_true, true_and, and_false, false_and, not_true, not_false_eq_true, eq_self, if_true, if_false, not_or, not_and, Nat.not_lt, Nat.not_le, n1, n2, n3, n4, e1, io_eq]
end WP
