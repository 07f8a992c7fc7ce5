/-! the two sides apart, each by the same ghost: the rows of swaps, of who is off (a bit each), of holders, of debts -/
abbrev RG : Type := (Nat → Int32) × (Nat → Nat) × (Nat → Int32) × (Nat → Nat) × (Nat → Nat)
def gsw (g : RG) : Nat → Int32 := g.1
def gof (g : RG) : Nat → Nat := g.2.1
def gho (g : RG) : Nat → Int32 := g.2.2.1
def gda (g : RG) : Nat → Nat := g.2.2.2.1
def gdb (g : RG) : Nat → Nat := g.2.2.2.2
def PEc (s : St) (n : Nat) : Prop := n ≤ 8 ∧ gI s 768 = io n
def PEm (s : St) (n : Nat) : Prop := n ≤ 8 ∧ gI s 2532 = io n
def ROc (s : St) (g : RG) : Prop := ∀ j, j < 126 → gA s 13 j = gsw g j ∧ gA s 14 j = io (gof g j) ∧ gA s 15 j = gho g j
def ofb (g : RG) (p j : Nat) : Int32 := io (if (gof g j).testBit p then 1 else 0)
def ROm (s : St) (g : RG) : Prop := ∀ j, j < 126 → gA s 57 j = gsw g j ∧ (∀ p, p < 8 → gA s 56 (126 * p + j) = ofb g p j) ∧ gA s 58 j = gho g j
def ROg (g : RG) (h n : Nat) : Prop := ∀ j, j < 126 → nob n (gsw g j) ∧ gof g j < 256 ∧ nob n (gho g j) ∧ (h / 8 < j → gho g j = -io 1)
def DBc (s : St) (g : RG) (d : Nat) : Prop := gI s 774 = io d ∧ ∀ i, i < d → gA s 16 i = io (gda g i) ∧ gA s 17 i = io (gdb g i)
def DBm (s : St) (g : RG) (d : Nat) : Prop := gI s 2548 = io d ∧ ∀ i, i < d → gA s 69 i = io (8 * gda g i + gdb g i)
def DBg (g : RG) (n d : Nat) : Prop := d ≤ 4000 ∧ ∀ i, i < d → gda g i < n ∧ gdb g i < n
theorem ofb_or (g : RG) (p j : Nat) : ofb g p j = io 0 ∨ ofb g p j = io 1 := by
  unfold ofb
  by_cases hb : (gof g j).testBit p = true
  · rw [if_pos hb]; exact Or.inr rfl
  · rw [if_neg hb]; exact Or.inl rfl
theorem RO.split {s : St} {h n d : Nat} (R : RO s h n) (Q : DB s n d) : ∃ g : RG, ROc s g ∧ ROm s g ∧ ROg g h n ∧ DBc s g d ∧ DBm s g d ∧ DBg g n d := by
  have h1 : ∀ j : Nat, ∃ v : Nat, j < 126 → v < 256 ∧ gA s 14 j = io v ∧ ∀ p, p < 8 → gA s 56 (126 * p + j) = io (if v.testBit p then 1 else 0) := fun j => by
    by_cases hj : j < 126
    · obtain ⟨-, -, ⟨v, hv⟩, -⟩ := R j hj
      exact ⟨v, fun _ => hv⟩
    · exact ⟨0, fun h => absurd h hj⟩
  have h2 : ∀ i : Nat, ∃ z : Nat × Nat, i < d → z.1 < n ∧ z.2 < n ∧ gA s 16 i = io z.1 ∧ gA s 17 i = io z.2 ∧ gA s 69 i = io (8 * z.1 + z.2) := fun i => by
    by_cases hi : i < d
    · obtain ⟨a, b, hab⟩ := Q.2.2.2 i hi
      exact ⟨(a, b), fun _ => hab⟩
    · exact ⟨(0, 0), fun h => absurd h hi⟩
  obtain ⟨f, hf⟩ := Classical.axiomOfChoice h1
  obtain ⟨z, hz⟩ := Classical.axiomOfChoice h2
  refine ⟨(gA s 57, f, gA s 58, fun i => (z i).1, fun i => (z i).2), fun j hj => ?_, fun j hj => ?_, fun j hj => ?_, ⟨Q.2.1, fun i hi => ?_⟩, ⟨Q.2.2.1, fun i hi => ?_⟩, Q.1, fun i hi => ?_⟩
  · exact ⟨(R j hj).1, (hf j hj).2.1, (R j hj).2.2.2.1⟩
  · exact ⟨rfl, fun p hp => (hf j hj).2.2 p hp, rfl⟩
  · exact ⟨(R j hj).2.1, (hf j hj).1, (R j hj).2.2.2.2.1, (R j hj).2.2.2.2.2⟩
  · exact ⟨(hz i hi).2.2.1, (hz i hi).2.2.2.1⟩
  · exact (hz i hi).2.2.2.2
  · exact ⟨(hz i hi).1, (hz i hi).2.1⟩
theorem RO.join {s : St} {g : RG} {h n : Nat} (c : ROc s g) (m : ROm s g) (G : ROg g h n) : RO s h n := fun j hj => by
  obtain ⟨c1, c2, c3⟩ := c j hj
  obtain ⟨m1, m2, m3⟩ := m j hj
  obtain ⟨g1, g2, g3, g4⟩ := G j hj
  exact ⟨by rw [c1, m1], by rw [m1]; exact g1, ⟨gof g j, g2, c2, m2⟩, by rw [c3, m3], by rw [m3]; exact g3, fun hl => by rw [m3]; exact g4 hl⟩
theorem DB.join {s : St} {g : RG} {n d : Nat} (c : DBc s g d) (m : DBm s g d) (G : DBg g n d) : DB s n d :=
  ⟨G.1, c.1, m.1, fun i hi => ⟨gda g i, gdb g i, (G.2 i hi).1, (G.2 i hi).2, (c.2 i hi).1, (c.2 i hi).2, m.2 i hi⟩⟩
/-! who holds, by the ghost -/
def plan2 (g : RG) (n j : Nat) : Int32 := if n = 0 then -io 1 else if gsw g j = -io 1 then io (j % n) else gsw g j
theorem plan2_some {g : RG} {h n j : Nat} (R : ROg g h n) (hj : j < 126) (hn : n ≠ 0) : ∃ q, q < n ∧ plan2 g n j = io q := by
  unfold plan2
  rw [if_neg hn]
  by_cases h1 : gsw g j = -io 1
  · rw [if_pos h1]; exact ⟨_, Nat.mod_lt _ (by omega), rfl⟩
  · rw [if_neg h1]
    exact (R j hj).1.resolve_left h1
theorem P_isOff2 {F h n p j : Nat} {s : St} {g : RG} (R : ROc s g) (G : ROg g h n) (hp : p < 8) (hj : j < 126) : f_Rota_isOff F s (io p) (io j) = some (ofb g p j, s) := by
  have e1 := (R j hj).2.1
  have hv := (G j hj).2.1
  have h1 : ¬ 125 < j := by omega
  have h2 : gof g j >>> p ≤ gof g j := Nat.shiftRight_le _ p
  unfold ofb
  by_cases hb : (gof g j).testBit p = true
  · simp (disch := omega) only [f_Rota_isOff, Option.bind_some, Nat.reduceEqDiff, Nat.add_zero, Nat.zero_add, Nat.reduceLT, Nat.reduceLeDiff, Nat.reduceAdd, Nat.reduceSub, Nat.reduceMul, Nat.reduceDiv, Nat.lt_irrefl, Nat.not_lt_zero, Nat.zero_le, Nat.one_ne_zero, Nat.succ_ne_zero,  lt_def, i32_lit, reduceIte, P_isIn_eq, M_isIn_eq, M_goes_eq, or_false, false_or, or_true, true_or, and_true, true_and, and_false, false_and, not_true, not_false_eq_true, eq_self, if_true, if_false, not_or, not_and, Nat.not_lt, Nat.not_le, io_lt, io_le, io_eq, io_neg1, io_neg1', neg1_lt, io_le_neg1, io_lt_neg1, io_add, io_mul, io_pred, io_modE, natMod, io_sub, io_div, ix_io, gI_sI, gI_sA, gI_sL, gI_sJ, gI_sR, gI_sQ, gI_sD, gI_sN, gI_sz, gA_sI, gA_sA, gA_sL, gA_sJ, gA_sR, gA_sQ, gA_sD, gA_sN, gA_sz, gL_sI, gL_sA, gL_sL, gL_sJ, gL_sR, gL_sQ, gL_sD, gL_sN, gL_sz, gJ_sI, gJ_sA, gJ_sL, gJ_sJ, gJ_sR, gJ_sQ, gJ_sD, gJ_sN, gJ_sz, gR_sI, gR_sA, gR_sL, gR_sJ, gR_sR, gR_sQ, gR_sD, gR_sN, gR_sz, gQ_sI, gQ_sA, gQ_sL, gQ_sJ, gQ_sR, gQ_sQ, gQ_sD, gQ_sN, gQ_sz, gD_sI, gD_sA, gD_sL, gD_sJ, gD_sR, gD_sQ, gD_sD, gD_sN, gD_sz, sz_sI, sz_sA, sz_sL, sz_sJ, sz_sR, sz_sQ, sz_sD, sz_sN, sz_sz, h1, e1, io_and, io_shr, and31, bit_tb, hb]
  · simp (disch := omega) only [f_Rota_isOff, Option.bind_some, Nat.reduceEqDiff, Nat.add_zero, Nat.zero_add, Nat.reduceLT, Nat.reduceLeDiff, Nat.reduceAdd, Nat.reduceSub, Nat.reduceMul, Nat.reduceDiv, Nat.lt_irrefl, Nat.not_lt_zero, Nat.zero_le, Nat.one_ne_zero, Nat.succ_ne_zero,  lt_def, i32_lit, reduceIte, P_isIn_eq, M_isIn_eq, M_goes_eq, or_false, false_or, or_true, true_or, and_true, true_and, and_false, false_and, not_true, not_false_eq_true, eq_self, if_true, if_false, not_or, not_and, Nat.not_lt, Nat.not_le, io_lt, io_le, io_eq, io_neg1, io_neg1', neg1_lt, io_le_neg1, io_lt_neg1, io_add, io_mul, io_pred, io_modE, natMod, io_sub, io_div, ix_io, gI_sI, gI_sA, gI_sL, gI_sJ, gI_sR, gI_sQ, gI_sD, gI_sN, gI_sz, gA_sI, gA_sA, gA_sL, gA_sJ, gA_sR, gA_sQ, gA_sD, gA_sN, gA_sz, gL_sI, gL_sA, gL_sL, gL_sJ, gL_sR, gL_sQ, gL_sD, gL_sN, gL_sz, gJ_sI, gJ_sA, gJ_sL, gJ_sJ, gJ_sR, gJ_sQ, gJ_sD, gJ_sN, gJ_sz, gR_sI, gR_sA, gR_sL, gR_sJ, gR_sR, gR_sQ, gR_sD, gR_sN, gR_sz, gQ_sI, gQ_sA, gQ_sL, gQ_sJ, gQ_sR, gQ_sQ, gQ_sD, gQ_sN, gQ_sz, gD_sI, gD_sA, gD_sL, gD_sJ, gD_sR, gD_sQ, gD_sD, gD_sN, gD_sz, sz_sI, sz_sA, sz_sL, sz_sJ, sz_sR, sz_sQ, sz_sD, sz_sN, sz_sz, h1, e1, io_and, io_shr, and31, bit_tb, hb, Bool.false_eq_true]
theorem M_isOff2 {F p j : Nat} {s : St} {g : RG} (R : ROm s g) (hp : p < 8) (hj : j < 126) : f_M_isOffIn F s (io p) (io j) = some (ofb g p j, s) := by
  have e1 := (R j hj).2.1 p hp
  rcases ofb_or g p j with h | h <;> simp (disch := omega) only [f_M_isOffIn, Option.bind_some, Nat.reduceEqDiff, Nat.add_zero, Nat.zero_add, Nat.reduceLT, Nat.reduceLeDiff, Nat.reduceAdd, Nat.reduceSub, Nat.reduceMul, Nat.reduceDiv, Nat.lt_irrefl, Nat.not_lt_zero, Nat.zero_le, Nat.one_ne_zero, Nat.succ_ne_zero,  lt_def, i32_lit, reduceIte, P_isIn_eq, M_isIn_eq, M_goes_eq, or_false, false_or, or_true, true_or, and_true, true_and, and_false, false_and, not_true, not_false_eq_true, eq_self, if_true, if_false, not_or, not_and, Nat.not_lt, Nat.not_le, io_lt, io_le, io_eq, io_neg1, io_neg1', neg1_lt, io_le_neg1, io_lt_neg1, io_add, io_mul, io_pred, io_modE, natMod, io_sub, io_div, ix_io, gI_sI, gI_sA, gI_sL, gI_sJ, gI_sR, gI_sQ, gI_sD, gI_sN, gI_sz, gA_sI, gA_sA, gA_sL, gA_sJ, gA_sR, gA_sQ, gA_sD, gA_sN, gA_sz, gL_sI, gL_sA, gL_sL, gL_sJ, gL_sR, gL_sQ, gL_sD, gL_sN, gL_sz, gJ_sI, gJ_sA, gJ_sL, gJ_sJ, gJ_sR, gJ_sQ, gJ_sD, gJ_sN, gJ_sz, gR_sI, gR_sA, gR_sL, gR_sJ, gR_sR, gR_sQ, gR_sD, gR_sN, gR_sz, gQ_sI, gQ_sA, gQ_sL, gQ_sJ, gQ_sR, gQ_sQ, gQ_sD, gQ_sN, gQ_sz, gD_sI, gD_sA, gD_sL, gD_sJ, gD_sR, gD_sQ, gD_sD, gD_sN, gD_sz, sz_sI, sz_sA, sz_sL, sz_sJ, sz_sR, sz_sQ, sz_sD, sz_sN, sz_sz, e1, h]
theorem P_plan2 {F h n j : Nat} {s : St} {g : RG} (P : PEc s n) (R : ROc s g) (hj : j < 126) : f_Rota_plannedFor F s (io j) = some (plan2 g n j, s) := by
  have h1 : ¬ 125 < j := by omega
  have hn := P.1
  have e1 := (R j hj).1
  unfold plan2
  by_cases h0 : n = 0
  · subst h0
    simp (disch := omega) only [f_Rota_plannedFor, Option.bind_some, Nat.reduceEqDiff, Nat.add_zero, Nat.zero_add, Nat.reduceLT, Nat.reduceLeDiff, Nat.reduceAdd, Nat.reduceSub, Nat.reduceMul, Nat.reduceDiv, Nat.lt_irrefl, Nat.not_lt_zero, Nat.zero_le, Nat.one_ne_zero, Nat.succ_ne_zero,  lt_def, i32_lit, reduceIte, P_isIn_eq, M_isIn_eq, M_goes_eq, or_false, false_or, or_true, true_or, and_true, true_and, and_false, false_and, not_true, not_false_eq_true, eq_self, if_true, if_false, not_or, not_and, Nat.not_lt, Nat.not_le, io_lt, io_le, io_eq, io_neg1, io_neg1', neg1_lt, io_le_neg1, io_lt_neg1, io_add, io_mul, io_pred, io_modE, natMod, io_sub, io_div, ix_io, gI_sI, gI_sA, gI_sL, gI_sJ, gI_sR, gI_sQ, gI_sD, gI_sN, gI_sz, gA_sI, gA_sA, gA_sL, gA_sJ, gA_sR, gA_sQ, gA_sD, gA_sN, gA_sz, gL_sI, gL_sA, gL_sL, gL_sJ, gL_sR, gL_sQ, gL_sD, gL_sN, gL_sz, gJ_sI, gJ_sA, gJ_sL, gJ_sJ, gJ_sR, gJ_sQ, gJ_sD, gJ_sN, gJ_sz, gR_sI, gR_sA, gR_sL, gR_sJ, gR_sR, gR_sQ, gR_sD, gR_sN, gR_sz, gQ_sI, gQ_sA, gQ_sL, gQ_sJ, gQ_sR, gQ_sQ, gQ_sD, gQ_sN, gQ_sz, gD_sI, gD_sA, gD_sL, gD_sJ, gD_sR, gD_sQ, gD_sD, gD_sN, gD_sz, sz_sI, sz_sA, sz_sL, sz_sJ, sz_sR, sz_sQ, sz_sD, sz_sN, sz_sz, h1, P.2]
  · have h2 : 0 < n := by omega
    by_cases h3 : gsw g j = -io 1
    · simp (disch := omega) only [f_Rota_plannedFor, Option.bind_some, Nat.reduceEqDiff, Nat.add_zero, Nat.zero_add, Nat.reduceLT, Nat.reduceLeDiff, Nat.reduceAdd, Nat.reduceSub, Nat.reduceMul, Nat.reduceDiv, Nat.lt_irrefl, Nat.not_lt_zero, Nat.zero_le, Nat.one_ne_zero, Nat.succ_ne_zero,  lt_def, i32_lit, reduceIte, P_isIn_eq, M_isIn_eq, M_goes_eq, or_false, false_or, or_true, true_or, and_true, true_and, and_false, false_and, not_true, not_false_eq_true, eq_self, if_true, if_false, not_or, not_and, Nat.not_lt, Nat.not_le, io_lt, io_le, io_eq, io_neg1, io_neg1', neg1_lt, io_le_neg1, io_lt_neg1, io_add, io_mul, io_pred, io_modE, natMod, io_sub, io_div, ix_io, gI_sI, gI_sA, gI_sL, gI_sJ, gI_sR, gI_sQ, gI_sD, gI_sN, gI_sz, gA_sI, gA_sA, gA_sL, gA_sJ, gA_sR, gA_sQ, gA_sD, gA_sN, gA_sz, gL_sI, gL_sA, gL_sL, gL_sJ, gL_sR, gL_sQ, gL_sD, gL_sN, gL_sz, gJ_sI, gJ_sA, gJ_sL, gJ_sJ, gJ_sR, gJ_sQ, gJ_sD, gJ_sN, gJ_sz, gR_sI, gR_sA, gR_sL, gR_sJ, gR_sR, gR_sQ, gR_sD, gR_sN, gR_sz, gQ_sI, gQ_sA, gQ_sL, gQ_sJ, gQ_sR, gQ_sQ, gQ_sD, gQ_sN, gQ_sz, gD_sI, gD_sA, gD_sL, gD_sJ, gD_sR, gD_sQ, gD_sD, gD_sN, gD_sz, sz_sI, sz_sA, sz_sL, sz_sJ, sz_sR, sz_sQ, sz_sD, sz_sN, sz_sz, h1, P.2, h2, h0, e1, h3, io_mod]
    · simp (disch := omega) only [f_Rota_plannedFor, Option.bind_some, Nat.reduceEqDiff, Nat.add_zero, Nat.zero_add, Nat.reduceLT, Nat.reduceLeDiff, Nat.reduceAdd, Nat.reduceSub, Nat.reduceMul, Nat.reduceDiv, Nat.lt_irrefl, Nat.not_lt_zero, Nat.zero_le, Nat.one_ne_zero, Nat.succ_ne_zero,  lt_def, i32_lit, reduceIte, P_isIn_eq, M_isIn_eq, M_goes_eq, or_false, false_or, or_true, true_or, and_true, true_and, and_false, false_and, not_true, not_false_eq_true, eq_self, if_true, if_false, not_or, not_and, Nat.not_lt, Nat.not_le, io_lt, io_le, io_eq, io_neg1, io_neg1', neg1_lt, io_le_neg1, io_lt_neg1, io_add, io_mul, io_pred, io_modE, natMod, io_sub, io_div, ix_io, gI_sI, gI_sA, gI_sL, gI_sJ, gI_sR, gI_sQ, gI_sD, gI_sN, gI_sz, gA_sI, gA_sA, gA_sL, gA_sJ, gA_sR, gA_sQ, gA_sD, gA_sN, gA_sz, gL_sI, gL_sA, gL_sL, gL_sJ, gL_sR, gL_sQ, gL_sD, gL_sN, gL_sz, gJ_sI, gJ_sA, gJ_sL, gJ_sJ, gJ_sR, gJ_sQ, gJ_sD, gJ_sN, gJ_sz, gR_sI, gR_sA, gR_sL, gR_sJ, gR_sR, gR_sQ, gR_sD, gR_sN, gR_sz, gQ_sI, gQ_sA, gQ_sL, gQ_sJ, gQ_sR, gQ_sQ, gQ_sD, gQ_sN, gQ_sz, gD_sI, gD_sA, gD_sL, gD_sJ, gD_sR, gD_sQ, gD_sD, gD_sN, gD_sz, sz_sI, sz_sA, sz_sL, sz_sJ, sz_sR, sz_sQ, sz_sD, sz_sN, sz_sz, h1, P.2, h2, h0, e1, h3]
theorem M_plan2 {F n j : Nat} {s : St} {g : RG} (P : PEm s n) (R : ROm s g) (hj : j < 126) : f_M_plannedFor F s (io j) = some (plan2 g n j, s) := by
  have hn := P.1
  have e1 := (R j hj).1
  unfold plan2
  by_cases h0 : n = 0
  · subst h0
    simp (disch := omega) only [f_M_plannedFor, Option.bind_some, Nat.reduceEqDiff, Nat.add_zero, Nat.zero_add, Nat.reduceLT, Nat.reduceLeDiff, Nat.reduceAdd, Nat.reduceSub, Nat.reduceMul, Nat.reduceDiv, Nat.lt_irrefl, Nat.not_lt_zero, Nat.zero_le, Nat.one_ne_zero, Nat.succ_ne_zero,  lt_def, i32_lit, reduceIte, P_isIn_eq, M_isIn_eq, M_goes_eq, or_false, false_or, or_true, true_or, and_true, true_and, and_false, false_and, not_true, not_false_eq_true, eq_self, if_true, if_false, not_or, not_and, Nat.not_lt, Nat.not_le, io_lt, io_le, io_eq, io_neg1, io_neg1', neg1_lt, io_le_neg1, io_lt_neg1, io_add, io_mul, io_pred, io_modE, natMod, io_sub, io_div, ix_io, gI_sI, gI_sA, gI_sL, gI_sJ, gI_sR, gI_sQ, gI_sD, gI_sN, gI_sz, gA_sI, gA_sA, gA_sL, gA_sJ, gA_sR, gA_sQ, gA_sD, gA_sN, gA_sz, gL_sI, gL_sA, gL_sL, gL_sJ, gL_sR, gL_sQ, gL_sD, gL_sN, gL_sz, gJ_sI, gJ_sA, gJ_sL, gJ_sJ, gJ_sR, gJ_sQ, gJ_sD, gJ_sN, gJ_sz, gR_sI, gR_sA, gR_sL, gR_sJ, gR_sR, gR_sQ, gR_sD, gR_sN, gR_sz, gQ_sI, gQ_sA, gQ_sL, gQ_sJ, gQ_sR, gQ_sQ, gQ_sD, gQ_sN, gQ_sz, gD_sI, gD_sA, gD_sL, gD_sJ, gD_sR, gD_sQ, gD_sD, gD_sN, gD_sz, sz_sI, sz_sA, sz_sL, sz_sJ, sz_sR, sz_sQ, sz_sD, sz_sN, sz_sz, P.2]
  · by_cases h3 : gsw g j = -io 1
    · simp (disch := omega) only [f_M_plannedFor, Option.bind_some, Nat.reduceEqDiff, Nat.add_zero, Nat.zero_add, Nat.reduceLT, Nat.reduceLeDiff, Nat.reduceAdd, Nat.reduceSub, Nat.reduceMul, Nat.reduceDiv, Nat.lt_irrefl, Nat.not_lt_zero, Nat.zero_le, Nat.one_ne_zero, Nat.succ_ne_zero,  lt_def, i32_lit, reduceIte, P_isIn_eq, M_isIn_eq, M_goes_eq, or_false, false_or, or_true, true_or, and_true, true_and, and_false, false_and, not_true, not_false_eq_true, eq_self, if_true, if_false, not_or, not_and, Nat.not_lt, Nat.not_le, io_lt, io_le, io_eq, io_neg1, io_neg1', neg1_lt, io_le_neg1, io_lt_neg1, io_add, io_mul, io_pred, io_modE, natMod, io_sub, io_div, ix_io, gI_sI, gI_sA, gI_sL, gI_sJ, gI_sR, gI_sQ, gI_sD, gI_sN, gI_sz, gA_sI, gA_sA, gA_sL, gA_sJ, gA_sR, gA_sQ, gA_sD, gA_sN, gA_sz, gL_sI, gL_sA, gL_sL, gL_sJ, gL_sR, gL_sQ, gL_sD, gL_sN, gL_sz, gJ_sI, gJ_sA, gJ_sL, gJ_sJ, gJ_sR, gJ_sQ, gJ_sD, gJ_sN, gJ_sz, gR_sI, gR_sA, gR_sL, gR_sJ, gR_sR, gR_sQ, gR_sD, gR_sN, gR_sz, gQ_sI, gQ_sA, gQ_sL, gQ_sJ, gQ_sR, gQ_sQ, gQ_sD, gQ_sN, gQ_sz, gD_sI, gD_sA, gD_sL, gD_sJ, gD_sR, gD_sQ, gD_sD, gD_sN, gD_sz, sz_sI, sz_sA, sz_sL, sz_sJ, sz_sR, sz_sQ, sz_sD, sz_sN, sz_sz, P.2, h0, e1, h3, io_mod]
    · simp (disch := omega) only [f_M_plannedFor, Option.bind_some, Nat.reduceEqDiff, Nat.add_zero, Nat.zero_add, Nat.reduceLT, Nat.reduceLeDiff, Nat.reduceAdd, Nat.reduceSub, Nat.reduceMul, Nat.reduceDiv, Nat.lt_irrefl, Nat.not_lt_zero, Nat.zero_le, Nat.one_ne_zero, Nat.succ_ne_zero,  lt_def, i32_lit, reduceIte, P_isIn_eq, M_isIn_eq, M_goes_eq, or_false, false_or, or_true, true_or, and_true, true_and, and_false, false_and, not_true, not_false_eq_true, eq_self, if_true, if_false, not_or, not_and, Nat.not_lt, Nat.not_le, io_lt, io_le, io_eq, io_neg1, io_neg1', neg1_lt, io_le_neg1, io_lt_neg1, io_add, io_mul, io_pred, io_modE, natMod, io_sub, io_div, ix_io, gI_sI, gI_sA, gI_sL, gI_sJ, gI_sR, gI_sQ, gI_sD, gI_sN, gI_sz, gA_sI, gA_sA, gA_sL, gA_sJ, gA_sR, gA_sQ, gA_sD, gA_sN, gA_sz, gL_sI, gL_sA, gL_sL, gL_sJ, gL_sR, gL_sQ, gL_sD, gL_sN, gL_sz, gJ_sI, gJ_sA, gJ_sL, gJ_sJ, gJ_sR, gJ_sQ, gJ_sD, gJ_sN, gJ_sz, gR_sI, gR_sA, gR_sL, gR_sJ, gR_sR, gR_sQ, gR_sD, gR_sN, gR_sz, gQ_sI, gQ_sA, gQ_sL, gQ_sJ, gQ_sR, gQ_sQ, gQ_sD, gQ_sN, gQ_sz, gD_sI, gD_sA, gD_sL, gD_sJ, gD_sR, gD_sQ, gD_sD, gD_sN, gD_sz, sz_sI, sz_sA, sz_sL, sz_sJ, sz_sR, sz_sQ, sz_sD, sz_sN, sz_sz, P.2, h0, e1, h3]
def pd2 (g : RG) (j q i : Nat) : Bool := decide (gdb g i = q ∧ ofb g (gda g i) j = io 0)
def paid2 (g : RG) (n d j : Nat) : Int32 := if n = 0 then -io 1 else if j % 3 = 0 then (if ofb g (cl (plan2 g n j)) j = io 0 then fup (pd2 g j (cl (plan2 g n j))) io 0 d else -io 1) else -io 1
def hop2 (g : RG) (n j q k : Nat) : Bool := decide (ofb g ((q + k) % n) j = io 0)
def hold2 (g : RG) (n d j : Nat) : Int32 := if n = 0 then -io 1 else
  if ofb g (cl (plan2 g n j)) j = io 0 then (if paid2 g n d j = -io 1 then plan2 g n j else io (gda g (cl (paid2 g n d j))))
  else fup (hop2 g n j (cl (plan2 g n j))) (fun k => io ((cl (plan2 g n j) + k) % n)) 1 (n - 1)
theorem paid2_or {g : RG} {n d j : Nat} : paid2 g n d j = -io 1 ∨ ∃ i, i < d ∧ paid2 g n d j = io i := by
  unfold paid2
  by_cases h0 : n = 0
  · rw [if_pos h0]; exact Or.inl rfl
  · rw [if_neg h0]
    by_cases h1 : j % 3 = 0
    · rw [if_pos h1]
      by_cases h2 : ofb g (cl (plan2 g n j)) j = io 0
      · rw [if_pos h2]
        rcases fup_some (p := pd2 g j (cl (plan2 g n j))) (v := io) d 0 with h | ⟨i, h3, h4, h5, h6⟩
        · exact Or.inl h
        · exact Or.inr ⟨i, by omega, h6⟩
      · rw [if_neg h2]; exact Or.inl rfl
    · rw [if_neg h1]; exact Or.inl rfl
theorem hold2_nob {g : RG} {h n d j : Nat} (G : ROg g h n) (K : DBg g n d) (hj : j < 126) (hn : n ≤ 8) : nob n (hold2 g n d j) := by
  unfold hold2
  by_cases h0 : n = 0
  · rw [if_pos h0]; exact Or.inl rfl
  · rw [if_neg h0]
    obtain ⟨q, hq, e⟩ := plan2_some G hj h0
    by_cases h2 : ofb g (cl (plan2 g n j)) j = io 0
    · rw [if_pos h2]
      rcases paid2_or (g := g) (n := n) (d := d) (j := j) with ep | ⟨i, hi, ep⟩
      · rw [if_pos ep, e]; exact Or.inr ⟨q, hq, rfl⟩
      · have hd := K.1
        rw [ep, if_neg (by rw [io_neg1 (by omega)]; exact id), cl_io (by omega)]
        exact Or.inr ⟨_, (K.2 i hi).1, rfl⟩
    · rw [if_neg h2]
      rcases fup_some (p := hop2 g n j (cl (plan2 g n j))) (v := fun k => io ((cl (plan2 g n j) + k) % n)) (n - 1) 1 with h | ⟨i, h3, h4, h5, h6⟩
      · rw [h]; exact Or.inl rfl
      · rw [h6]; exact Or.inr ⟨_, Nat.mod_lt _ (by omega), rfl⟩
theorem P_debt_loop2 {F h n d : Nat} {s : St} {g : RG} (hn : n ≤ 8) (R : ROc s g) (G : ROg g h n) (Q : DBc s g d) (K : DBg g n d) {j q : Nat} (hq : q < n) (hj : j < 126) : ∀ (k m i : Nat), i + k = d → k < m → f_Rota_debtPaidIn_b31 F m s (io j) (io q) (io i) = some (fup (pd2 g j q) io i (d - i), s) := by
  have hd := K.1
  have e1 := Q.1
  intro k
  induction k with
  | zero =>
    intro m i hi hm
    obtain ⟨m, rfl⟩ : ∃ m', m = m' + 1 := ⟨m - 1, by omega⟩
    have hi' : i = d := by omega
    subst hi'
    simp (disch := omega) only [f_Rota_debtPaidIn_b31, Option.bind_some, Nat.reduceEqDiff, Nat.add_zero, Nat.zero_add, Nat.reduceLT, Nat.reduceLeDiff, Nat.reduceAdd, Nat.reduceSub, Nat.reduceMul, Nat.reduceDiv, Nat.lt_irrefl, Nat.not_lt_zero, Nat.zero_le, Nat.one_ne_zero, Nat.succ_ne_zero,  lt_def, i32_lit, reduceIte, P_isIn_eq, M_isIn_eq, M_goes_eq, or_false, false_or, or_true, true_or, and_true, true_and, and_false, false_and, not_true, not_false_eq_true, eq_self, if_true, if_false, not_or, not_and, Nat.not_lt, Nat.not_le, io_lt, io_le, io_eq, io_neg1, io_neg1', neg1_lt, io_le_neg1, io_lt_neg1, io_add, io_mul, io_pred, io_modE, natMod, io_sub, io_div, ix_io, gI_sI, gI_sA, gI_sL, gI_sJ, gI_sR, gI_sQ, gI_sD, gI_sN, gI_sz, gA_sI, gA_sA, gA_sL, gA_sJ, gA_sR, gA_sQ, gA_sD, gA_sN, gA_sz, gL_sI, gL_sA, gL_sL, gL_sJ, gL_sR, gL_sQ, gL_sD, gL_sN, gL_sz, gJ_sI, gJ_sA, gJ_sL, gJ_sJ, gJ_sR, gJ_sQ, gJ_sD, gJ_sN, gJ_sz, gR_sI, gR_sA, gR_sL, gR_sJ, gR_sR, gR_sQ, gR_sD, gR_sN, gR_sz, gQ_sI, gQ_sA, gQ_sL, gQ_sJ, gQ_sR, gQ_sQ, gQ_sD, gQ_sN, gQ_sz, gD_sI, gD_sA, gD_sL, gD_sJ, gD_sR, gD_sQ, gD_sD, gD_sN, gD_sz, sz_sI, sz_sA, sz_sL, sz_sJ, sz_sR, sz_sQ, sz_sD, sz_sN, sz_sz, e1, Nat.le_refl, Nat.sub_self, fup]
  | succ k ih =>
    intro m i hi hm
    obtain ⟨m, rfl⟩ : ∃ m', m = m' + 1 := ⟨m - 1, by omega⟩
    have h1 : ¬ d ≤ i := by omega
    have h2 : ¬ 4000 ≤ i := by omega
    have h3 := ih m (i + 1) (by omega) (by omega)
    have hs : d - i = (d - (i + 1)) + 1 := by omega
    obtain ⟨f1, f2⟩ := Q.2 i (by omega)
    obtain ⟨ha, hb⟩ := K.2 i (by omega)
    rw [hs, fup]
    by_cases h4 : gdb g i = q
    · have ho := P_isOff2 (F := F) R G (show gda g i < 8 by omega) hj
      rcases ofb_or g (gda g i) j with h5 | h5
      · rw [if_pos (by simp [pd2, h4, h5])]
        simp (disch := omega) only [f_Rota_debtPaidIn_b31, Option.bind_some, Nat.reduceEqDiff, Nat.add_zero, Nat.zero_add, Nat.reduceLT, Nat.reduceLeDiff, Nat.reduceAdd, Nat.reduceSub, Nat.reduceMul, Nat.reduceDiv, Nat.lt_irrefl, Nat.not_lt_zero, Nat.zero_le, Nat.one_ne_zero, Nat.succ_ne_zero,  lt_def, i32_lit, reduceIte, P_isIn_eq, M_isIn_eq, M_goes_eq, or_false, false_or, or_true, true_or, and_true, true_and, and_false, false_and, not_true, not_false_eq_true, eq_self, if_true, if_false, not_or, not_and, Nat.not_lt, Nat.not_le, io_lt, io_le, io_eq, io_neg1, io_neg1', neg1_lt, io_le_neg1, io_lt_neg1, io_add, io_mul, io_pred, io_modE, natMod, io_sub, io_div, ix_io, gI_sI, gI_sA, gI_sL, gI_sJ, gI_sR, gI_sQ, gI_sD, gI_sN, gI_sz, gA_sI, gA_sA, gA_sL, gA_sJ, gA_sR, gA_sQ, gA_sD, gA_sN, gA_sz, gL_sI, gL_sA, gL_sL, gL_sJ, gL_sR, gL_sQ, gL_sD, gL_sN, gL_sz, gJ_sI, gJ_sA, gJ_sL, gJ_sJ, gJ_sR, gJ_sQ, gJ_sD, gJ_sN, gJ_sz, gR_sI, gR_sA, gR_sL, gR_sJ, gR_sR, gR_sQ, gR_sD, gR_sN, gR_sz, gQ_sI, gQ_sA, gQ_sL, gQ_sJ, gQ_sR, gQ_sQ, gQ_sD, gQ_sN, gQ_sz, gD_sI, gD_sA, gD_sL, gD_sJ, gD_sR, gD_sQ, gD_sD, gD_sN, gD_sz, sz_sI, sz_sA, sz_sL, sz_sJ, sz_sR, sz_sQ, sz_sD, sz_sN, sz_sz, e1, h1, h2, h4, f1, f2, ho, h5]
      · rw [if_neg (by simp (disch := omega) only [pd2, h4, h5, Option.bind_some, Nat.reduceEqDiff, Nat.add_zero, Nat.zero_add, Nat.reduceLT, Nat.reduceLeDiff, Nat.reduceAdd, Nat.reduceSub, Nat.reduceMul, Nat.reduceDiv, Nat.lt_irrefl, Nat.not_lt_zero, Nat.zero_le, Nat.one_ne_zero, Nat.succ_ne_zero,  lt_def, i32_lit, reduceIte, P_isIn_eq, M_isIn_eq, M_goes_eq, or_false, false_or, or_true, true_or, and_true, true_and, and_false, false_and, not_true, not_false_eq_true, eq_self, if_true, if_false, not_or, not_and, Nat.not_lt, Nat.not_le, io_lt, io_le, io_eq, io_neg1, io_neg1', neg1_lt, io_le_neg1, io_lt_neg1, io_add, io_mul, io_pred, io_modE, natMod, io_sub, io_div, ix_io, gI_sI, gI_sA, gI_sL, gI_sJ, gI_sR, gI_sQ, gI_sD, gI_sN, gI_sz, gA_sI, gA_sA, gA_sL, gA_sJ, gA_sR, gA_sQ, gA_sD, gA_sN, gA_sz, gL_sI, gL_sA, gL_sL, gL_sJ, gL_sR, gL_sQ, gL_sD, gL_sN, gL_sz, gJ_sI, gJ_sA, gJ_sL, gJ_sJ, gJ_sR, gJ_sQ, gJ_sD, gJ_sN, gJ_sz, gR_sI, gR_sA, gR_sL, gR_sJ, gR_sR, gR_sQ, gR_sD, gR_sN, gR_sz, gQ_sI, gQ_sA, gQ_sL, gQ_sJ, gQ_sR, gQ_sQ, gQ_sD, gQ_sN, gQ_sz, gD_sI, gD_sA, gD_sL, gD_sJ, gD_sR, gD_sQ, gD_sD, gD_sN, gD_sz, sz_sI, sz_sA, sz_sL, sz_sJ, sz_sR, sz_sQ, sz_sD, sz_sN, sz_sz, decide_false, Bool.false_eq_true])]
        simp (disch := omega) only [f_Rota_debtPaidIn_b31, Option.bind_some, Nat.reduceEqDiff, Nat.add_zero, Nat.zero_add, Nat.reduceLT, Nat.reduceLeDiff, Nat.reduceAdd, Nat.reduceSub, Nat.reduceMul, Nat.reduceDiv, Nat.lt_irrefl, Nat.not_lt_zero, Nat.zero_le, Nat.one_ne_zero, Nat.succ_ne_zero,  lt_def, i32_lit, reduceIte, P_isIn_eq, M_isIn_eq, M_goes_eq, or_false, false_or, or_true, true_or, and_true, true_and, and_false, false_and, not_true, not_false_eq_true, eq_self, if_true, if_false, not_or, not_and, Nat.not_lt, Nat.not_le, io_lt, io_le, io_eq, io_neg1, io_neg1', neg1_lt, io_le_neg1, io_lt_neg1, io_add, io_mul, io_pred, io_modE, natMod, io_sub, io_div, ix_io, gI_sI, gI_sA, gI_sL, gI_sJ, gI_sR, gI_sQ, gI_sD, gI_sN, gI_sz, gA_sI, gA_sA, gA_sL, gA_sJ, gA_sR, gA_sQ, gA_sD, gA_sN, gA_sz, gL_sI, gL_sA, gL_sL, gL_sJ, gL_sR, gL_sQ, gL_sD, gL_sN, gL_sz, gJ_sI, gJ_sA, gJ_sL, gJ_sJ, gJ_sR, gJ_sQ, gJ_sD, gJ_sN, gJ_sz, gR_sI, gR_sA, gR_sL, gR_sJ, gR_sR, gR_sQ, gR_sD, gR_sN, gR_sz, gQ_sI, gQ_sA, gQ_sL, gQ_sJ, gQ_sR, gQ_sQ, gQ_sD, gQ_sN, gQ_sz, gD_sI, gD_sA, gD_sL, gD_sJ, gD_sR, gD_sQ, gD_sD, gD_sN, gD_sz, sz_sI, sz_sA, sz_sL, sz_sJ, sz_sR, sz_sQ, sz_sD, sz_sN, sz_sz, e1, h1, h2, h4, f1, f2, ho, h5]
        exact h3
    · rw [if_neg (by simp [pd2, h4])]
      simp (disch := omega) only [f_Rota_debtPaidIn_b31, Option.bind_some, Nat.reduceEqDiff, Nat.add_zero, Nat.zero_add, Nat.reduceLT, Nat.reduceLeDiff, Nat.reduceAdd, Nat.reduceSub, Nat.reduceMul, Nat.reduceDiv, Nat.lt_irrefl, Nat.not_lt_zero, Nat.zero_le, Nat.one_ne_zero, Nat.succ_ne_zero,  lt_def, i32_lit, reduceIte, P_isIn_eq, M_isIn_eq, M_goes_eq, or_false, false_or, or_true, true_or, and_true, true_and, and_false, false_and, not_true, not_false_eq_true, eq_self, if_true, if_false, not_or, not_and, Nat.not_lt, Nat.not_le, io_lt, io_le, io_eq, io_neg1, io_neg1', neg1_lt, io_le_neg1, io_lt_neg1, io_add, io_mul, io_pred, io_modE, natMod, io_sub, io_div, ix_io, gI_sI, gI_sA, gI_sL, gI_sJ, gI_sR, gI_sQ, gI_sD, gI_sN, gI_sz, gA_sI, gA_sA, gA_sL, gA_sJ, gA_sR, gA_sQ, gA_sD, gA_sN, gA_sz, gL_sI, gL_sA, gL_sL, gL_sJ, gL_sR, gL_sQ, gL_sD, gL_sN, gL_sz, gJ_sI, gJ_sA, gJ_sL, gJ_sJ, gJ_sR, gJ_sQ, gJ_sD, gJ_sN, gJ_sz, gR_sI, gR_sA, gR_sL, gR_sJ, gR_sR, gR_sQ, gR_sD, gR_sN, gR_sz, gQ_sI, gQ_sA, gQ_sL, gQ_sJ, gQ_sR, gQ_sQ, gQ_sD, gQ_sN, gQ_sz, gD_sI, gD_sA, gD_sL, gD_sJ, gD_sR, gD_sQ, gD_sD, gD_sN, gD_sz, sz_sI, sz_sA, sz_sL, sz_sJ, sz_sR, sz_sQ, sz_sD, sz_sN, sz_sz, e1, h1, h2, f2, h4]
      exact h3
theorem P_debtPaid2 {F h n d : Nat} (hF : 5000 ≤ F) {s : St} {g : RG} (P : PEc s n) (R : ROc s g) (G : ROg g h n) (Q : DBc s g d) (K : DBg g n d) {j : Nat} (hj : j < 126) : f_Rota_debtPaidIn F s (io j) = some (paid2 g n d j, s) := by
  have hd := K.1
  have hn := P.1
  unfold paid2
  by_cases h0 : n = 0
  · subst h0
    have e : plan2 g 0 j = -io 1 := by unfold plan2; rw [if_pos rfl]
    simp (disch := omega) only [f_Rota_debtPaidIn, Option.bind_some, Nat.reduceEqDiff, Nat.add_zero, Nat.zero_add, Nat.reduceLT, Nat.reduceLeDiff, Nat.reduceAdd, Nat.reduceSub, Nat.reduceMul, Nat.reduceDiv, Nat.lt_irrefl, Nat.not_lt_zero, Nat.zero_le, Nat.one_ne_zero, Nat.succ_ne_zero,  lt_def, i32_lit, reduceIte, P_isIn_eq, M_isIn_eq, M_goes_eq, or_false, false_or, or_true, true_or, and_true, true_and, and_false, false_and, not_true, not_false_eq_true, eq_self, if_true, if_false, not_or, not_and, Nat.not_lt, Nat.not_le, io_lt, io_le, io_eq, io_neg1, io_neg1', neg1_lt, io_le_neg1, io_lt_neg1, io_add, io_mul, io_pred, io_modE, natMod, io_sub, io_div, ix_io, gI_sI, gI_sA, gI_sL, gI_sJ, gI_sR, gI_sQ, gI_sD, gI_sN, gI_sz, gA_sI, gA_sA, gA_sL, gA_sJ, gA_sR, gA_sQ, gA_sD, gA_sN, gA_sz, gL_sI, gL_sA, gL_sL, gL_sJ, gL_sR, gL_sQ, gL_sD, gL_sN, gL_sz, gJ_sI, gJ_sA, gJ_sL, gJ_sJ, gJ_sR, gJ_sQ, gJ_sD, gJ_sN, gJ_sz, gR_sI, gR_sA, gR_sL, gR_sJ, gR_sR, gR_sQ, gR_sD, gR_sN, gR_sz, gQ_sI, gQ_sA, gQ_sL, gQ_sJ, gQ_sR, gQ_sQ, gQ_sD, gQ_sN, gQ_sz, gD_sI, gD_sA, gD_sL, gD_sJ, gD_sR, gD_sQ, gD_sD, gD_sN, gD_sz, sz_sI, sz_sA, sz_sL, sz_sJ, sz_sR, sz_sQ, sz_sD, sz_sN, sz_sz, P_plan2 (h := h) P R hj, e]
  · obtain ⟨q, hq, e⟩ := plan2_some G hj h0
    have cq : cl (io q) = q := cl_io (by omega)
    by_cases h1 : j % 3 = 0
    · have ho := P_isOff2 (F := F) R G (show q < 8 by omega) hj
      rcases ofb_or g q j with h5 | h5
      · have hl := P_debt_loop2 (F := F) hn R G Q K hq hj d F 0 (by omega) (by omega)
        simp (disch := omega) only [f_Rota_debtPaidIn, Option.bind_some, Nat.reduceEqDiff, Nat.add_zero, Nat.zero_add, Nat.reduceLT, Nat.reduceLeDiff, Nat.reduceAdd, Nat.reduceSub, Nat.reduceMul, Nat.reduceDiv, Nat.lt_irrefl, Nat.not_lt_zero, Nat.zero_le, Nat.one_ne_zero, Nat.succ_ne_zero,  lt_def, i32_lit, reduceIte, P_isIn_eq, M_isIn_eq, M_goes_eq, or_false, false_or, or_true, true_or, and_true, true_and, and_false, false_and, not_true, not_false_eq_true, eq_self, if_true, if_false, not_or, not_and, Nat.not_lt, Nat.not_le, io_lt, io_le, io_eq, io_neg1, io_neg1', neg1_lt, io_le_neg1, io_lt_neg1, io_add, io_mul, io_pred, io_modE, natMod, io_sub, io_div, ix_io, gI_sI, gI_sA, gI_sL, gI_sJ, gI_sR, gI_sQ, gI_sD, gI_sN, gI_sz, gA_sI, gA_sA, gA_sL, gA_sJ, gA_sR, gA_sQ, gA_sD, gA_sN, gA_sz, gL_sI, gL_sA, gL_sL, gL_sJ, gL_sR, gL_sQ, gL_sD, gL_sN, gL_sz, gJ_sI, gJ_sA, gJ_sL, gJ_sJ, gJ_sR, gJ_sQ, gJ_sD, gJ_sN, gJ_sz, gR_sI, gR_sA, gR_sL, gR_sJ, gR_sR, gR_sQ, gR_sD, gR_sN, gR_sz, gQ_sI, gQ_sA, gQ_sL, gQ_sJ, gQ_sR, gQ_sQ, gQ_sD, gQ_sN, gQ_sz, gD_sI, gD_sA, gD_sL, gD_sJ, gD_sR, gD_sQ, gD_sD, gD_sN, gD_sz, sz_sI, sz_sA, sz_sL, sz_sJ, sz_sR, sz_sQ, sz_sD, sz_sN, sz_sz, P_plan2 (h := h) P R hj, e, h0, P_night_eq, h1, ho, h5, cq]
        exact hl
      · simp (disch := omega) only [f_Rota_debtPaidIn, Option.bind_some, Nat.reduceEqDiff, Nat.add_zero, Nat.zero_add, Nat.reduceLT, Nat.reduceLeDiff, Nat.reduceAdd, Nat.reduceSub, Nat.reduceMul, Nat.reduceDiv, Nat.lt_irrefl, Nat.not_lt_zero, Nat.zero_le, Nat.one_ne_zero, Nat.succ_ne_zero,  lt_def, i32_lit, reduceIte, P_isIn_eq, M_isIn_eq, M_goes_eq, or_false, false_or, or_true, true_or, and_true, true_and, and_false, false_and, not_true, not_false_eq_true, eq_self, if_true, if_false, not_or, not_and, Nat.not_lt, Nat.not_le, io_lt, io_le, io_eq, io_neg1, io_neg1', neg1_lt, io_le_neg1, io_lt_neg1, io_add, io_mul, io_pred, io_modE, natMod, io_sub, io_div, ix_io, gI_sI, gI_sA, gI_sL, gI_sJ, gI_sR, gI_sQ, gI_sD, gI_sN, gI_sz, gA_sI, gA_sA, gA_sL, gA_sJ, gA_sR, gA_sQ, gA_sD, gA_sN, gA_sz, gL_sI, gL_sA, gL_sL, gL_sJ, gL_sR, gL_sQ, gL_sD, gL_sN, gL_sz, gJ_sI, gJ_sA, gJ_sL, gJ_sJ, gJ_sR, gJ_sQ, gJ_sD, gJ_sN, gJ_sz, gR_sI, gR_sA, gR_sL, gR_sJ, gR_sR, gR_sQ, gR_sD, gR_sN, gR_sz, gQ_sI, gQ_sA, gQ_sL, gQ_sJ, gQ_sR, gQ_sQ, gQ_sD, gQ_sN, gQ_sz, gD_sI, gD_sA, gD_sL, gD_sJ, gD_sR, gD_sQ, gD_sD, gD_sN, gD_sz, sz_sI, sz_sA, sz_sL, sz_sJ, sz_sR, sz_sQ, sz_sD, sz_sN, sz_sz, P_plan2 (h := h) P R hj, e, h0, P_night_eq, h1, ho, h5, cq]
    · simp (disch := omega) only [f_Rota_debtPaidIn, Option.bind_some, Nat.reduceEqDiff, Nat.add_zero, Nat.zero_add, Nat.reduceLT, Nat.reduceLeDiff, Nat.reduceAdd, Nat.reduceSub, Nat.reduceMul, Nat.reduceDiv, Nat.lt_irrefl, Nat.not_lt_zero, Nat.zero_le, Nat.one_ne_zero, Nat.succ_ne_zero,  lt_def, i32_lit, reduceIte, P_isIn_eq, M_isIn_eq, M_goes_eq, or_false, false_or, or_true, true_or, and_true, true_and, and_false, false_and, not_true, not_false_eq_true, eq_self, if_true, if_false, not_or, not_and, Nat.not_lt, Nat.not_le, io_lt, io_le, io_eq, io_neg1, io_neg1', neg1_lt, io_le_neg1, io_lt_neg1, io_add, io_mul, io_pred, io_modE, natMod, io_sub, io_div, ix_io, gI_sI, gI_sA, gI_sL, gI_sJ, gI_sR, gI_sQ, gI_sD, gI_sN, gI_sz, gA_sI, gA_sA, gA_sL, gA_sJ, gA_sR, gA_sQ, gA_sD, gA_sN, gA_sz, gL_sI, gL_sA, gL_sL, gL_sJ, gL_sR, gL_sQ, gL_sD, gL_sN, gL_sz, gJ_sI, gJ_sA, gJ_sL, gJ_sJ, gJ_sR, gJ_sQ, gJ_sD, gJ_sN, gJ_sz, gR_sI, gR_sA, gR_sL, gR_sJ, gR_sR, gR_sQ, gR_sD, gR_sN, gR_sz, gQ_sI, gQ_sA, gQ_sL, gQ_sJ, gQ_sR, gQ_sQ, gQ_sD, gQ_sN, gQ_sz, gD_sI, gD_sA, gD_sL, gD_sJ, gD_sR, gD_sQ, gD_sD, gD_sN, gD_sz, sz_sI, sz_sA, sz_sL, sz_sJ, sz_sR, sz_sQ, sz_sD, sz_sN, sz_sz, P_plan2 (h := h) P R hj, e, h0, P_night_eq, h1]
theorem P_hold_loop2 {F h n : Nat} {s : St} {g : RG} (P : PEc s n) (R : ROc s g) (G : ROg g h n) (hn0 : n ≠ 0) {j q : Nat} (hq : q < n) (hj : j < 126) : ∀ (k m i : Nat), i + k = n → k < m → f_Rota_holderToBe_b37 F m s (io j) (io q) (io i) = some (fup (hop2 g n j q) (fun k => io ((q + k) % n)) i (n - i), s) := by
  have hn := P.1
  have e1 := P.2
  intro k
  induction k with
  | zero =>
    intro m i hi hm
    obtain ⟨m, rfl⟩ : ∃ m', m = m' + 1 := ⟨m - 1, by omega⟩
    have hi' : i = n := by omega
    subst hi'
    simp (disch := omega) only [f_Rota_holderToBe_b37, Option.bind_some, Nat.reduceEqDiff, Nat.add_zero, Nat.zero_add, Nat.reduceLT, Nat.reduceLeDiff, Nat.reduceAdd, Nat.reduceSub, Nat.reduceMul, Nat.reduceDiv, Nat.lt_irrefl, Nat.not_lt_zero, Nat.zero_le, Nat.one_ne_zero, Nat.succ_ne_zero,  lt_def, i32_lit, reduceIte, P_isIn_eq, M_isIn_eq, M_goes_eq, or_false, false_or, or_true, true_or, and_true, true_and, and_false, false_and, not_true, not_false_eq_true, eq_self, if_true, if_false, not_or, not_and, Nat.not_lt, Nat.not_le, io_lt, io_le, io_eq, io_neg1, io_neg1', neg1_lt, io_le_neg1, io_lt_neg1, io_add, io_mul, io_pred, io_modE, natMod, io_sub, io_div, ix_io, gI_sI, gI_sA, gI_sL, gI_sJ, gI_sR, gI_sQ, gI_sD, gI_sN, gI_sz, gA_sI, gA_sA, gA_sL, gA_sJ, gA_sR, gA_sQ, gA_sD, gA_sN, gA_sz, gL_sI, gL_sA, gL_sL, gL_sJ, gL_sR, gL_sQ, gL_sD, gL_sN, gL_sz, gJ_sI, gJ_sA, gJ_sL, gJ_sJ, gJ_sR, gJ_sQ, gJ_sD, gJ_sN, gJ_sz, gR_sI, gR_sA, gR_sL, gR_sJ, gR_sR, gR_sQ, gR_sD, gR_sN, gR_sz, gQ_sI, gQ_sA, gQ_sL, gQ_sJ, gQ_sR, gQ_sQ, gQ_sD, gQ_sN, gQ_sz, gD_sI, gD_sA, gD_sL, gD_sJ, gD_sR, gD_sQ, gD_sD, gD_sN, gD_sz, sz_sI, sz_sA, sz_sL, sz_sJ, sz_sR, sz_sQ, sz_sD, sz_sN, sz_sz, e1, Nat.le_refl, Nat.sub_self, fup]
  | succ k ih =>
    intro m i hi hm
    obtain ⟨m, rfl⟩ : ∃ m', m = m' + 1 := ⟨m - 1, by omega⟩
    have h1 : ¬ n ≤ i := by omega
    have h3 := ih m (i + 1) (by omega) (by omega)
    have hs : n - i = (n - (i + 1)) + 1 := by omega
    have hm8 : (q + i) % n < n := Nat.mod_lt _ (by omega)
    have ho := P_isOff2 (F := F) R G (show (q + i) % n < 8 by omega) hj
    rw [hs, fup]
    rcases ofb_or g ((q + i) % n) j with h5 | h5
    · rw [if_pos (by simp [hop2, h5])]
      simp (disch := omega) only [f_Rota_holderToBe_b37, Option.bind_some, Nat.reduceEqDiff, Nat.add_zero, Nat.zero_add, Nat.reduceLT, Nat.reduceLeDiff, Nat.reduceAdd, Nat.reduceSub, Nat.reduceMul, Nat.reduceDiv, Nat.lt_irrefl, Nat.not_lt_zero, Nat.zero_le, Nat.one_ne_zero, Nat.succ_ne_zero,  lt_def, i32_lit, reduceIte, P_isIn_eq, M_isIn_eq, M_goes_eq, or_false, false_or, or_true, true_or, and_true, true_and, and_false, false_and, not_true, not_false_eq_true, eq_self, if_true, if_false, not_or, not_and, Nat.not_lt, Nat.not_le, io_lt, io_le, io_eq, io_neg1, io_neg1', neg1_lt, io_le_neg1, io_lt_neg1, io_add, io_mul, io_pred, io_modE, natMod, io_sub, io_div, ix_io, gI_sI, gI_sA, gI_sL, gI_sJ, gI_sR, gI_sQ, gI_sD, gI_sN, gI_sz, gA_sI, gA_sA, gA_sL, gA_sJ, gA_sR, gA_sQ, gA_sD, gA_sN, gA_sz, gL_sI, gL_sA, gL_sL, gL_sJ, gL_sR, gL_sQ, gL_sD, gL_sN, gL_sz, gJ_sI, gJ_sA, gJ_sL, gJ_sJ, gJ_sR, gJ_sQ, gJ_sD, gJ_sN, gJ_sz, gR_sI, gR_sA, gR_sL, gR_sJ, gR_sR, gR_sQ, gR_sD, gR_sN, gR_sz, gQ_sI, gQ_sA, gQ_sL, gQ_sJ, gQ_sR, gQ_sQ, gQ_sD, gQ_sN, gQ_sz, gD_sI, gD_sA, gD_sL, gD_sJ, gD_sR, gD_sQ, gD_sD, gD_sN, gD_sz, sz_sI, sz_sA, sz_sL, sz_sJ, sz_sR, sz_sQ, sz_sD, sz_sN, sz_sz, e1, h1, hn0, ho, h5]
    · rw [if_neg (by simp (disch := omega) only [hop2, h5, Option.bind_some, Nat.reduceEqDiff, Nat.add_zero, Nat.zero_add, Nat.reduceLT, Nat.reduceLeDiff, Nat.reduceAdd, Nat.reduceSub, Nat.reduceMul, Nat.reduceDiv, Nat.lt_irrefl, Nat.not_lt_zero, Nat.zero_le, Nat.one_ne_zero, Nat.succ_ne_zero,  lt_def, i32_lit, reduceIte, P_isIn_eq, M_isIn_eq, M_goes_eq, or_false, false_or, or_true, true_or, and_true, true_and, and_false, false_and, not_true, not_false_eq_true, eq_self, if_true, if_false, not_or, not_and, Nat.not_lt, Nat.not_le, io_lt, io_le, io_eq, io_neg1, io_neg1', neg1_lt, io_le_neg1, io_lt_neg1, io_add, io_mul, io_pred, io_modE, natMod, io_sub, io_div, ix_io, gI_sI, gI_sA, gI_sL, gI_sJ, gI_sR, gI_sQ, gI_sD, gI_sN, gI_sz, gA_sI, gA_sA, gA_sL, gA_sJ, gA_sR, gA_sQ, gA_sD, gA_sN, gA_sz, gL_sI, gL_sA, gL_sL, gL_sJ, gL_sR, gL_sQ, gL_sD, gL_sN, gL_sz, gJ_sI, gJ_sA, gJ_sL, gJ_sJ, gJ_sR, gJ_sQ, gJ_sD, gJ_sN, gJ_sz, gR_sI, gR_sA, gR_sL, gR_sJ, gR_sR, gR_sQ, gR_sD, gR_sN, gR_sz, gQ_sI, gQ_sA, gQ_sL, gQ_sJ, gQ_sR, gQ_sQ, gQ_sD, gQ_sN, gQ_sz, gD_sI, gD_sA, gD_sL, gD_sJ, gD_sR, gD_sQ, gD_sD, gD_sN, gD_sz, sz_sI, sz_sA, sz_sL, sz_sJ, sz_sR, sz_sQ, sz_sD, sz_sN, sz_sz, decide_false, Bool.false_eq_true])]
      simp (disch := omega) only [f_Rota_holderToBe_b37, Option.bind_some, Nat.reduceEqDiff, Nat.add_zero, Nat.zero_add, Nat.reduceLT, Nat.reduceLeDiff, Nat.reduceAdd, Nat.reduceSub, Nat.reduceMul, Nat.reduceDiv, Nat.lt_irrefl, Nat.not_lt_zero, Nat.zero_le, Nat.one_ne_zero, Nat.succ_ne_zero,  lt_def, i32_lit, reduceIte, P_isIn_eq, M_isIn_eq, M_goes_eq, or_false, false_or, or_true, true_or, and_true, true_and, and_false, false_and, not_true, not_false_eq_true, eq_self, if_true, if_false, not_or, not_and, Nat.not_lt, Nat.not_le, io_lt, io_le, io_eq, io_neg1, io_neg1', neg1_lt, io_le_neg1, io_lt_neg1, io_add, io_mul, io_pred, io_modE, natMod, io_sub, io_div, ix_io, gI_sI, gI_sA, gI_sL, gI_sJ, gI_sR, gI_sQ, gI_sD, gI_sN, gI_sz, gA_sI, gA_sA, gA_sL, gA_sJ, gA_sR, gA_sQ, gA_sD, gA_sN, gA_sz, gL_sI, gL_sA, gL_sL, gL_sJ, gL_sR, gL_sQ, gL_sD, gL_sN, gL_sz, gJ_sI, gJ_sA, gJ_sL, gJ_sJ, gJ_sR, gJ_sQ, gJ_sD, gJ_sN, gJ_sz, gR_sI, gR_sA, gR_sL, gR_sJ, gR_sR, gR_sQ, gR_sD, gR_sN, gR_sz, gQ_sI, gQ_sA, gQ_sL, gQ_sJ, gQ_sR, gQ_sQ, gQ_sD, gQ_sN, gQ_sz, gD_sI, gD_sA, gD_sL, gD_sJ, gD_sR, gD_sQ, gD_sD, gD_sN, gD_sz, sz_sI, sz_sA, sz_sL, sz_sJ, sz_sR, sz_sQ, sz_sD, sz_sN, sz_sz, e1, h1, hn0, ho, h5]
      exact h3
theorem hop20 {g : RG} {n j q : Nat} (hq : q < n) : hop2 g n j q 0 = decide (ofb g q j = io 0) := by
  unfold hop2
  rw [Nat.add_zero, Nat.mod_eq_of_lt hq]
theorem P_hold2 {F h n d : Nat} (hF : 5000 ≤ F) {s : St} {g : RG} (P : PEc s n) (R : ROc s g) (G : ROg g h n) (Q : DBc s g d) (K : DBg g n d) {j : Nat} (hj : j < 126) : f_Rota_holderToBe F s (io j) = some (hold2 g n d j, s) := by
  have hd := K.1
  have hn := P.1
  have e1 := P.2
  have hp := P_debtPaid2 (F := F) hF P R G Q K hj
  have h4' : (if -io 1 < io 0 ∨ io 4000 - io 1 < -io 1 then io 0 else io 1) = io 0 := by decide
  by_cases h0 : n = 0
  · subst h0
    have e : plan2 g 0 j = -io 1 := by unfold plan2; rw [if_pos rfl]
    have ep : paid2 g 0 d j = -io 1 := by unfold paid2; rw [if_pos rfl]
    have eh : hold2 g 0 d j = -io 1 := by unfold hold2; rw [if_pos rfl]
    obtain ⟨F', rfl⟩ : ∃ m, F = m + 1 := ⟨F - 1, by omega⟩
    rw [eh]
    simp (disch := omega) only [f_Rota_holderToBe, hp, ep, Option.bind_some, i32_lit, P_isIn_eq, h4', if_true, P_plan2 (h := h) P R hj, e, f_Rota_holderToBe_b37, e1, io_le, Nat.le_refl]
  · obtain ⟨q, hq, e⟩ := plan2_some G hj h0
    have cq : cl (io q) = q := cl_io (by omega)
    have hl := P_hold_loop2 (F := F) P R G h0 hq hj n F 0 (by omega) (by omega)
    have hs : n = (n - 1) + 1 := by omega
    have hfu : ∀ p v, fup p v 0 n = if p 0 then v 0 else fup p v 1 (n - 1) := fun p v => by conv => lhs; rw [hs]; unfold fup
    rw [Nat.sub_zero, hfu] at hl
    have hq0 : (q + 0) % n = q := by rw [Nat.add_zero]; exact Nat.mod_eq_of_lt hq
    unfold hold2
    rw [if_neg h0, e, cq]
    rcases ofb_or g q j with h5 | h5
    · rw [if_pos h5]
      rw [hop20 hq, h5, if_pos (by decide), hq0] at hl
      rcases paid2_or (g := g) (n := n) (d := d) (j := j) with ep | ⟨i, hi, ep⟩
      · rw [if_pos ep]
        simp (disch := omega) only [f_Rota_holderToBe, hp, ep, Option.bind_some, i32_lit, P_isIn_eq, h4', if_true, P_plan2 (h := h) P R hj, e]
        exact hl
      · have ci : cl (io i) = i := cl_io (by omega)
        have h6 : ¬ 3999 < i := by omega
        have f1 := (Q.2 i hi).1
        rw [ep, if_neg (by rw [io_neg1 (by omega)]; exact id), ci]
        simp (disch := omega) only [f_Rota_holderToBe, hp, ep, Option.bind_some, Nat.reduceEqDiff, Nat.add_zero, Nat.zero_add, Nat.reduceLT, Nat.reduceLeDiff, Nat.reduceAdd, Nat.reduceSub, Nat.reduceMul, Nat.reduceDiv, Nat.lt_irrefl, Nat.not_lt_zero, Nat.zero_le, Nat.one_ne_zero, Nat.succ_ne_zero,  lt_def, i32_lit, reduceIte, P_isIn_eq, M_isIn_eq, M_goes_eq, or_false, false_or, or_true, true_or, and_true, true_and, and_false, false_and, not_true, not_false_eq_true, eq_self, if_true, if_false, not_or, not_and, Nat.not_lt, Nat.not_le, io_lt, io_le, io_eq, io_neg1, io_neg1', neg1_lt, io_le_neg1, io_lt_neg1, io_add, io_mul, io_pred, io_modE, natMod, io_sub, io_div, ix_io, gI_sI, gI_sA, gI_sL, gI_sJ, gI_sR, gI_sQ, gI_sD, gI_sN, gI_sz, gA_sI, gA_sA, gA_sL, gA_sJ, gA_sR, gA_sQ, gA_sD, gA_sN, gA_sz, gL_sI, gL_sA, gL_sL, gL_sJ, gL_sR, gL_sQ, gL_sD, gL_sN, gL_sz, gJ_sI, gJ_sA, gJ_sL, gJ_sJ, gJ_sR, gJ_sQ, gJ_sD, gJ_sN, gJ_sz, gR_sI, gR_sA, gR_sL, gR_sJ, gR_sR, gR_sQ, gR_sD, gR_sN, gR_sz, gQ_sI, gQ_sA, gQ_sL, gQ_sJ, gQ_sR, gQ_sQ, gQ_sD, gQ_sN, gQ_sz, gD_sI, gD_sA, gD_sL, gD_sJ, gD_sR, gD_sQ, gD_sD, gD_sN, gD_sz, sz_sI, sz_sA, sz_sL, sz_sJ, sz_sR, sz_sQ, sz_sD, sz_sN, sz_sz, h6, f1]
    · have ep : paid2 g n d j = -io 1 := by
        unfold paid2
        rw [if_neg h0, e, cq]
        have : ¬ ofb g q j = io 0 := by rw [h5]; decide
        by_cases h1 : j % 3 = 0 <;> simp only [h1, this, reduceIte]
      rw [if_neg (by rw [h5]; decide)]
      rw [hop20 hq, h5, if_neg (by decide)] at hl
      simp (disch := omega) only [f_Rota_holderToBe, hp, ep, Option.bind_some, i32_lit, P_isIn_eq, h4', if_true, P_plan2 (h := h) P R hj, e]
      exact hl
/-! .. by the model -/
theorem PEm.I {s : St} {n : Nat} (P : PEm s n) {x : Int32} : PEm (sI s 2550 x) n := P
theorem ROm.I {s : St} {g : RG} (P : ROm s g) {x : Int32} : ROm (sI s 2550 x) g := P
theorem M_debt_loop2 {F n d : Nat} {s : St} {g : RG} (hn : n ≤ 8) (R : ROm s g) (Q : DBm s g d) (K : DBg g n d) {j q : Nat} (hq : q < n) (hj : j < 126) (h3 : j % 3 = 0) : ∀ (k m : Nat), k ≤ d → k < m → ∀ x, x = fup (pd2 g j q) io k (d - k) → f_M_holderOf_b85 F m (sI s 2550 x) (io j) (io q) (dn k) = f_M_holderOf_b144 F (sI s 2550 (fup (pd2 g j q) io 0 d)) (io q) := by
  have hd := K.1
  intro k
  induction k with
  | zero =>
    intro m hk hm x hx
    obtain ⟨m, rfl⟩ : ∃ m', m = m' + 1 := ⟨m - 1, by omega⟩
    rw [hx]
    have h1 : dn 0 < io 0 := by decide
    simp (disch := omega) only [f_M_holderOf_b85, i32_lit, h1, if_true, Nat.sub_zero]
  | succ k ih =>
    intro m hk hm x hx
    obtain ⟨m, rfl⟩ : ∃ m', m = m' + 1 := ⟨m - 1, by omega⟩
    have hs : d - k = (d - (k + 1)) + 1 := by omega
    obtain ⟨ha, hb⟩ := K.2 k (by omega)
    have f3' : gA (sI s 2550 x) 69 k = io (8 * gda g k + gdb g k) := Q.2 k (by omega)
    have hx2 : gI (sI s 2550 x) 2550 = x := rfl
    have m1 : (8 * gda g k + gdb g k) % 8 = gdb g k := by omega
    have m2 : (8 * gda g k + gdb g k) / 8 = gda g k := by omega
    have m3 : 8 * gda g k + gdb g k - gda g k * 8 = gdb g k := by omega
    have hN := M_night_eq (F := F) (s := sI s 2550 x) (j := j) (by omega)
    rw [if_pos h3] at hN
    rw [dn_succ]
    by_cases h4 : gdb g k = q
    · have ho := M_isOff2 (F := F) (R.I (x := x)) (show gda g k < 8 by omega) hj
      rcases ofb_or g (gda g k) j with h5 | h5
      · have e := ih m (by omega) (by omega) (io k) (by
          rw [hs, fup, if_pos (by simp [pd2, h4, h5])])
        simp (disch := omega) only [f_M_holderOf_b85, Option.bind_some, Nat.reduceEqDiff, Nat.add_zero, Nat.zero_add, Nat.reduceLT, Nat.reduceLeDiff, Nat.reduceAdd, Nat.reduceSub, Nat.reduceMul, Nat.reduceDiv, Nat.lt_irrefl, Nat.not_lt_zero, Nat.zero_le, Nat.one_ne_zero, Nat.succ_ne_zero,  lt_def, i32_lit, reduceIte, P_isIn_eq, M_isIn_eq, M_goes_eq, or_false, false_or, or_true, true_or, and_true, true_and, and_false, false_and, not_true, not_false_eq_true, eq_self, if_true, if_false, not_or, not_and, Nat.not_lt, Nat.not_le, io_lt, io_le, io_eq, io_neg1, io_neg1', neg1_lt, io_le_neg1, io_lt_neg1, io_add, io_mul, io_pred, io_modE, natMod, io_sub, io_div, ix_io, hN, f3', m1, m2, m3, h4, ho, h5, sI_sI, dn_pred]
        simp (disch := omega) only [f_M_holderOf_b85, Option.bind_some, Nat.reduceEqDiff, Nat.add_zero, Nat.zero_add, Nat.reduceLT, Nat.reduceLeDiff, Nat.reduceAdd, Nat.reduceSub, Nat.reduceMul, Nat.reduceDiv, Nat.lt_irrefl, Nat.not_lt_zero, Nat.zero_le, Nat.one_ne_zero, Nat.succ_ne_zero,  lt_def, i32_lit, reduceIte, P_isIn_eq, M_isIn_eq, M_goes_eq, or_false, false_or, or_true, true_or, and_true, true_and, and_false, false_and, not_true, not_false_eq_true, eq_self, if_true, if_false, not_or, not_and, Nat.not_lt, Nat.not_le, io_lt, io_le, io_eq, io_neg1, io_neg1', neg1_lt, io_le_neg1, io_lt_neg1, io_add, io_mul, io_pred, io_modE, natMod, io_sub, io_div, ix_io, hN, f3', h4 ▸ m1, h4 ▸ m2, h4 ▸ m3, ho, h5, sI_sI, dn_pred]
        exact e
      · have e := ih m (by omega) (by omega) x (by
          rw [hs, fup, if_neg (by simp (disch := omega) only [pd2, h4, h5, Option.bind_some, Nat.reduceEqDiff, Nat.add_zero, Nat.zero_add, Nat.reduceLT, Nat.reduceLeDiff, Nat.reduceAdd, Nat.reduceSub, Nat.reduceMul, Nat.reduceDiv, Nat.lt_irrefl, Nat.not_lt_zero, Nat.zero_le, Nat.one_ne_zero, Nat.succ_ne_zero,  lt_def, i32_lit, reduceIte, P_isIn_eq, M_isIn_eq, M_goes_eq, or_false, false_or, or_true, true_or, and_true, true_and, and_false, false_and, not_true, not_false_eq_true, eq_self, if_true, if_false, not_or, not_and, Nat.not_lt, Nat.not_le, io_lt, io_le, io_eq, io_neg1, io_neg1', neg1_lt, io_le_neg1, io_lt_neg1, io_add, io_mul, io_pred, io_modE, natMod, io_sub, io_div, ix_io, gI_sI, gI_sA, gI_sL, gI_sJ, gI_sR, gI_sQ, gI_sD, gI_sN, gI_sz, gA_sI, gA_sA, gA_sL, gA_sJ, gA_sR, gA_sQ, gA_sD, gA_sN, gA_sz, gL_sI, gL_sA, gL_sL, gL_sJ, gL_sR, gL_sQ, gL_sD, gL_sN, gL_sz, gJ_sI, gJ_sA, gJ_sL, gJ_sJ, gJ_sR, gJ_sQ, gJ_sD, gJ_sN, gJ_sz, gR_sI, gR_sA, gR_sL, gR_sJ, gR_sR, gR_sQ, gR_sD, gR_sN, gR_sz, gQ_sI, gQ_sA, gQ_sL, gQ_sJ, gQ_sR, gQ_sQ, gQ_sD, gQ_sN, gQ_sz, gD_sI, gD_sA, gD_sL, gD_sJ, gD_sR, gD_sQ, gD_sD, gD_sN, gD_sz, sz_sI, sz_sA, sz_sL, sz_sJ, sz_sR, sz_sQ, sz_sD, sz_sN, sz_sz, decide_false, Bool.false_eq_true])]
          exact hx)
        simp (disch := omega) only [f_M_holderOf_b85, Option.bind_some, Nat.reduceEqDiff, Nat.add_zero, Nat.zero_add, Nat.reduceLT, Nat.reduceLeDiff, Nat.reduceAdd, Nat.reduceSub, Nat.reduceMul, Nat.reduceDiv, Nat.lt_irrefl, Nat.not_lt_zero, Nat.zero_le, Nat.one_ne_zero, Nat.succ_ne_zero,  lt_def, i32_lit, reduceIte, P_isIn_eq, M_isIn_eq, M_goes_eq, or_false, false_or, or_true, true_or, and_true, true_and, and_false, false_and, not_true, not_false_eq_true, eq_self, if_true, if_false, not_or, not_and, Nat.not_lt, Nat.not_le, io_lt, io_le, io_eq, io_neg1, io_neg1', neg1_lt, io_le_neg1, io_lt_neg1, io_add, io_mul, io_pred, io_modE, natMod, io_sub, io_div, ix_io, hN, f3', m1, m2, m3, h4, ho, h5, sI_sI, dn_pred, hx2]
        simp (disch := omega) only [f_M_holderOf_b85, Option.bind_some, Nat.reduceEqDiff, Nat.add_zero, Nat.zero_add, Nat.reduceLT, Nat.reduceLeDiff, Nat.reduceAdd, Nat.reduceSub, Nat.reduceMul, Nat.reduceDiv, Nat.lt_irrefl, Nat.not_lt_zero, Nat.zero_le, Nat.one_ne_zero, Nat.succ_ne_zero,  lt_def, i32_lit, reduceIte, P_isIn_eq, M_isIn_eq, M_goes_eq, or_false, false_or, or_true, true_or, and_true, true_and, and_false, false_and, not_true, not_false_eq_true, eq_self, if_true, if_false, not_or, not_and, Nat.not_lt, Nat.not_le, io_lt, io_le, io_eq, io_neg1, io_neg1', neg1_lt, io_le_neg1, io_lt_neg1, io_add, io_mul, io_pred, io_modE, natMod, io_sub, io_div, ix_io, hN, f3', h4 ▸ m1, h4 ▸ m2, h4 ▸ m3, ho, h5, sI_sI, dn_pred, hx2]
        exact e
    · have e := ih m (by omega) (by omega) x (by
        rw [hs, fup, if_neg (by simp (disch := omega) only [pd2, h4, Option.bind_some, Nat.reduceEqDiff, Nat.add_zero, Nat.zero_add, Nat.reduceLT, Nat.reduceLeDiff, Nat.reduceAdd, Nat.reduceSub, Nat.reduceMul, Nat.reduceDiv, Nat.lt_irrefl, Nat.not_lt_zero, Nat.zero_le, Nat.one_ne_zero, Nat.succ_ne_zero,  lt_def, i32_lit, reduceIte, P_isIn_eq, M_isIn_eq, M_goes_eq, or_false, false_or, or_true, true_or, and_true, true_and, and_false, false_and, not_true, not_false_eq_true, eq_self, if_true, if_false, not_or, not_and, Nat.not_lt, Nat.not_le, decide_false, Bool.false_eq_true])]
        exact hx)
      simp (disch := omega) only [f_M_holderOf_b85, Option.bind_some, Nat.reduceEqDiff, Nat.add_zero, Nat.zero_add, Nat.reduceLT, Nat.reduceLeDiff, Nat.reduceAdd, Nat.reduceSub, Nat.reduceMul, Nat.reduceDiv, Nat.lt_irrefl, Nat.not_lt_zero, Nat.zero_le, Nat.one_ne_zero, Nat.succ_ne_zero,  lt_def, i32_lit, reduceIte, P_isIn_eq, M_isIn_eq, M_goes_eq, or_false, false_or, or_true, true_or, and_true, true_and, and_false, false_and, not_true, not_false_eq_true, eq_self, if_true, if_false, not_or, not_and, Nat.not_lt, Nat.not_le, io_lt, io_le, io_eq, io_neg1, io_neg1', neg1_lt, io_le_neg1, io_lt_neg1, io_add, io_mul, io_pred, io_modE, natMod, io_sub, io_div, ix_io, hN, f3', m1, m2, m3, h4, sI_sI, dn_pred, hx2]
      exact e
theorem M_hold_loop2 {F n : Nat} {s : St} {g : RG} (P : PEm s n) (R : ROm s g) (hn0 : n ≠ 0) {j q : Nat} (hq : q < n) (hj : j < 126) : ∀ (k m : Nat), k < n → k < m → f_M_holderOf_b37 F m s (io j) (io q) (fup (hop2 g n j q) (fun k => io ((q + k) % n)) (k + 1) (n - 1 - k)) (io k) = some (fup (hop2 g n j q) (fun k => io ((q + k) % n)) 1 (n - 1), s) := by
  have hn := P.1
  have e1 := P.2
  intro k
  induction k with
  | zero =>
    intro m hk hm
    obtain ⟨m, rfl⟩ : ∃ m', m = m' + 1 := ⟨m - 1, by omega⟩
    simp (disch := omega) only [f_M_holderOf_b37, Option.bind_some, Nat.reduceEqDiff, Nat.add_zero, Nat.zero_add, Nat.reduceLT, Nat.reduceLeDiff, Nat.reduceAdd, Nat.reduceSub, Nat.reduceMul, Nat.reduceDiv, Nat.lt_irrefl, Nat.not_lt_zero, Nat.zero_le, Nat.one_ne_zero, Nat.succ_ne_zero,  lt_def, i32_lit, reduceIte, P_isIn_eq, M_isIn_eq, M_goes_eq, or_false, false_or, or_true, true_or, and_true, true_and, and_false, false_and, not_true, not_false_eq_true, eq_self, if_true, if_false, not_or, not_and, Nat.not_lt, Nat.not_le, io_lt, io_le, io_eq, io_neg1, io_neg1', neg1_lt, io_le_neg1, io_lt_neg1, io_add, io_mul, io_pred, io_modE, natMod, io_sub, io_div, ix_io, gI_sI, gI_sA, gI_sL, gI_sJ, gI_sR, gI_sQ, gI_sD, gI_sN, gI_sz, gA_sI, gA_sA, gA_sL, gA_sJ, gA_sR, gA_sQ, gA_sD, gA_sN, gA_sz, gL_sI, gL_sA, gL_sL, gL_sJ, gL_sR, gL_sQ, gL_sD, gL_sN, gL_sz, gJ_sI, gJ_sA, gJ_sL, gJ_sJ, gJ_sR, gJ_sQ, gJ_sD, gJ_sN, gJ_sz, gR_sI, gR_sA, gR_sL, gR_sJ, gR_sR, gR_sQ, gR_sD, gR_sN, gR_sz, gQ_sI, gQ_sA, gQ_sL, gQ_sJ, gQ_sR, gQ_sQ, gQ_sD, gQ_sN, gQ_sz, gD_sI, gD_sA, gD_sL, gD_sJ, gD_sR, gD_sQ, gD_sD, gD_sN, gD_sz, sz_sI, sz_sA, sz_sL, sz_sJ, sz_sR, sz_sQ, sz_sD, sz_sN, sz_sz, Nat.le_refl, Nat.sub_zero]
  | succ k ih =>
    intro m hk hm
    obtain ⟨m, rfl⟩ : ∃ m', m = m' + 1 := ⟨m - 1, by omega⟩
    have h1 : ¬ k + 1 ≤ 0 := by omega
    have h3 := ih m (by omega) (by omega)
    have hs : n - 1 - k = (n - 1 - (k + 1)) + 1 := by omega
    have hm8 : (q + (k + 1)) % n < n := Nat.mod_lt _ (by omega)
    have ho := M_isOff2 (F := F) R (show (q + (k + 1)) % n < 8 by omega) hj
    rw [hs, fup] at h3
    rcases ofb_or g ((q + (k + 1)) % n) j with h5 | h5
    · rw [if_pos (by simp [hop2, h5])] at h3
      simp (disch := omega) only [f_M_holderOf_b37, Option.bind_some, Nat.reduceEqDiff, Nat.add_zero, Nat.zero_add, Nat.reduceLT, Nat.reduceLeDiff, Nat.reduceAdd, Nat.reduceSub, Nat.reduceMul, Nat.reduceDiv, Nat.lt_irrefl, Nat.not_lt_zero, Nat.zero_le, Nat.one_ne_zero, Nat.succ_ne_zero,  lt_def, i32_lit, reduceIte, P_isIn_eq, M_isIn_eq, M_goes_eq, or_false, false_or, or_true, true_or, and_true, true_and, and_false, false_and, not_true, not_false_eq_true, eq_self, if_true, if_false, not_or, not_and, Nat.not_lt, Nat.not_le, io_lt, io_le, io_eq, io_neg1, io_neg1', neg1_lt, io_le_neg1, io_lt_neg1, io_add, io_mul, io_pred, io_modE, natMod, io_sub, io_div, ix_io, gI_sI, gI_sA, gI_sL, gI_sJ, gI_sR, gI_sQ, gI_sD, gI_sN, gI_sz, gA_sI, gA_sA, gA_sL, gA_sJ, gA_sR, gA_sQ, gA_sD, gA_sN, gA_sz, gL_sI, gL_sA, gL_sL, gL_sJ, gL_sR, gL_sQ, gL_sD, gL_sN, gL_sz, gJ_sI, gJ_sA, gJ_sL, gJ_sJ, gJ_sR, gJ_sQ, gJ_sD, gJ_sN, gJ_sz, gR_sI, gR_sA, gR_sL, gR_sJ, gR_sR, gR_sQ, gR_sD, gR_sN, gR_sz, gQ_sI, gQ_sA, gQ_sL, gQ_sJ, gQ_sR, gQ_sQ, gQ_sD, gQ_sN, gQ_sz, gD_sI, gD_sA, gD_sL, gD_sJ, gD_sR, gD_sQ, gD_sD, gD_sN, gD_sz, sz_sI, sz_sA, sz_sL, sz_sJ, sz_sR, sz_sQ, sz_sD, sz_sN, sz_sz, e1, h1, hn0, ho, h5, Nat.add_sub_cancel]
      exact h3
    · rw [if_neg (by simp (disch := omega) only [hop2, h5, Option.bind_some, Nat.reduceEqDiff, Nat.add_zero, Nat.zero_add, Nat.reduceLT, Nat.reduceLeDiff, Nat.reduceAdd, Nat.reduceSub, Nat.reduceMul, Nat.reduceDiv, Nat.lt_irrefl, Nat.not_lt_zero, Nat.zero_le, Nat.one_ne_zero, Nat.succ_ne_zero,  lt_def, i32_lit, reduceIte, P_isIn_eq, M_isIn_eq, M_goes_eq, or_false, false_or, or_true, true_or, and_true, true_and, and_false, false_and, not_true, not_false_eq_true, eq_self, if_true, if_false, not_or, not_and, Nat.not_lt, Nat.not_le, io_lt, io_le, io_eq, io_neg1, io_neg1', neg1_lt, io_le_neg1, io_lt_neg1, io_add, io_mul, io_pred, io_modE, natMod, io_sub, io_div, ix_io, gI_sI, gI_sA, gI_sL, gI_sJ, gI_sR, gI_sQ, gI_sD, gI_sN, gI_sz, gA_sI, gA_sA, gA_sL, gA_sJ, gA_sR, gA_sQ, gA_sD, gA_sN, gA_sz, gL_sI, gL_sA, gL_sL, gL_sJ, gL_sR, gL_sQ, gL_sD, gL_sN, gL_sz, gJ_sI, gJ_sA, gJ_sL, gJ_sJ, gJ_sR, gJ_sQ, gJ_sD, gJ_sN, gJ_sz, gR_sI, gR_sA, gR_sL, gR_sJ, gR_sR, gR_sQ, gR_sD, gR_sN, gR_sz, gQ_sI, gQ_sA, gQ_sL, gQ_sJ, gQ_sR, gQ_sQ, gQ_sD, gQ_sN, gQ_sz, gD_sI, gD_sA, gD_sL, gD_sJ, gD_sR, gD_sQ, gD_sD, gD_sN, gD_sz, sz_sI, sz_sA, sz_sL, sz_sJ, sz_sR, sz_sQ, sz_sD, sz_sN, sz_sz, decide_false, Bool.false_eq_true])] at h3
      simp (disch := omega) only [f_M_holderOf_b37, Option.bind_some, Nat.reduceEqDiff, Nat.add_zero, Nat.zero_add, Nat.reduceLT, Nat.reduceLeDiff, Nat.reduceAdd, Nat.reduceSub, Nat.reduceMul, Nat.reduceDiv, Nat.lt_irrefl, Nat.not_lt_zero, Nat.zero_le, Nat.one_ne_zero, Nat.succ_ne_zero,  lt_def, i32_lit, reduceIte, P_isIn_eq, M_isIn_eq, M_goes_eq, or_false, false_or, or_true, true_or, and_true, true_and, and_false, false_and, not_true, not_false_eq_true, eq_self, if_true, if_false, not_or, not_and, Nat.not_lt, Nat.not_le, io_lt, io_le, io_eq, io_neg1, io_neg1', neg1_lt, io_le_neg1, io_lt_neg1, io_add, io_mul, io_pred, io_modE, natMod, io_sub, io_div, ix_io, gI_sI, gI_sA, gI_sL, gI_sJ, gI_sR, gI_sQ, gI_sD, gI_sN, gI_sz, gA_sI, gA_sA, gA_sL, gA_sJ, gA_sR, gA_sQ, gA_sD, gA_sN, gA_sz, gL_sI, gL_sA, gL_sL, gL_sJ, gL_sR, gL_sQ, gL_sD, gL_sN, gL_sz, gJ_sI, gJ_sA, gJ_sL, gJ_sJ, gJ_sR, gJ_sQ, gJ_sD, gJ_sN, gJ_sz, gR_sI, gR_sA, gR_sL, gR_sJ, gR_sR, gR_sQ, gR_sD, gR_sN, gR_sz, gQ_sI, gQ_sA, gQ_sL, gQ_sJ, gQ_sR, gQ_sQ, gQ_sD, gQ_sN, gQ_sz, gD_sI, gD_sA, gD_sL, gD_sJ, gD_sR, gD_sQ, gD_sD, gD_sN, gD_sz, sz_sI, sz_sA, sz_sL, sz_sJ, sz_sR, sz_sQ, sz_sD, sz_sN, sz_sz, e1, h1, hn0, ho, h5, Nat.add_sub_cancel]
      exact h3
theorem M_hold2 {F h n d : Nat} (hF : 5000 ≤ F) {s : St} {g : RG} (P : PEm s n) (R : ROm s g) (G : ROg g h n) (Q : DBm s g d) (K : DBg g n d) {j : Nat} (hj : j < 126) : f_M_holderOf F s (io j) = some (hold2 g n d j, sI s 2550 (paid2 g n d j)) := by
  have hd := K.1
  have hn := P.1
  have e1 := P.2
  have e2 := Q.1
  by_cases h0 : n = 0
  · subst h0
    have e : plan2 g 0 j = -io 1 := by unfold plan2; rw [if_pos rfl]
    have ep : paid2 g 0 d j = -io 1 := by unfold paid2; rw [if_pos rfl]
    have eh : hold2 g 0 d j = -io 1 := by unfold hold2; rw [if_pos rfl]
    rw [ep, eh]
    simp (disch := omega) only [f_M_holderOf, Option.bind_some, Nat.reduceEqDiff, Nat.add_zero, Nat.zero_add, Nat.reduceLT, Nat.reduceLeDiff, Nat.reduceAdd, Nat.reduceSub, Nat.reduceMul, Nat.reduceDiv, Nat.lt_irrefl, Nat.not_lt_zero, Nat.zero_le, Nat.one_ne_zero, Nat.succ_ne_zero,  lt_def, i32_lit, reduceIte, P_isIn_eq, M_isIn_eq, M_goes_eq, or_false, false_or, or_true, true_or, and_true, true_and, and_false, false_and, not_true, not_false_eq_true, eq_self, if_true, if_false, not_or, not_and, Nat.not_lt, Nat.not_le, io_lt, io_le, io_eq, io_neg1, io_neg1', neg1_lt, io_le_neg1, io_lt_neg1, io_add, io_mul, io_pred, io_modE, natMod, io_sub, io_div, ix_io, gI_sI, gI_sA, gI_sL, gI_sJ, gI_sR, gI_sQ, gI_sD, gI_sN, gI_sz, gA_sI, gA_sA, gA_sL, gA_sJ, gA_sR, gA_sQ, gA_sD, gA_sN, gA_sz, gL_sI, gL_sA, gL_sL, gL_sJ, gL_sR, gL_sQ, gL_sD, gL_sN, gL_sz, gJ_sI, gJ_sA, gJ_sL, gJ_sJ, gJ_sR, gJ_sQ, gJ_sD, gJ_sN, gJ_sz, gR_sI, gR_sA, gR_sL, gR_sJ, gR_sR, gR_sQ, gR_sD, gR_sN, gR_sz, gQ_sI, gQ_sA, gQ_sL, gQ_sJ, gQ_sR, gQ_sQ, gQ_sD, gQ_sN, gQ_sz, gD_sI, gD_sA, gD_sL, gD_sJ, gD_sR, gD_sQ, gD_sD, gD_sN, gD_sz, sz_sI, sz_sA, sz_sL, sz_sJ, sz_sR, sz_sQ, sz_sD, sz_sN, sz_sz, M_plan2 P R hj, e]
  · obtain ⟨q, hq, e⟩ := plan2_some G hj h0
    have cq : cl (io q) = q := cl_io (by omega)
    have ho := M_isOff2 (F := F) (R.I (x := -io 1)) (show q < 8 by omega) hj
    rcases ofb_or g q j with h5 | h5
    · by_cases h3 : j % 3 = 0
      · have hl := M_debt_loop2 (F := F) hn R Q K hq hj h3 d F (Nat.le_refl _) (by omega) (-io 1) (by rw [Nat.sub_self]; rfl)
        have hpa : paid2 g n d j = fup (pd2 g j q) io 0 d := by
          unfold paid2
          rw [if_neg h0, if_pos h3, e, cq, if_pos h5]
        have hb : f_M_holderOf_b144 F (sI s 2550 (fup (pd2 g j q) io 0 d)) (io q) = some (hold2 g n d j, sI s 2550 (paid2 g n d j)) := by
          rw [← hpa]
          unfold hold2
          rw [if_neg h0, e, cq, if_pos h5]
          rcases paid2_or (g := g) (n := n) (d := d) (j := j) with ep | ⟨i, hi, ep⟩
          · rw [ep, if_pos rfl]
            simp (disch := omega) only [f_M_holderOf_b144, Option.bind_some, Nat.reduceEqDiff, Nat.add_zero, Nat.zero_add, Nat.reduceLT, Nat.reduceLeDiff, Nat.reduceAdd, Nat.reduceSub, Nat.reduceMul, Nat.reduceDiv, Nat.lt_irrefl, Nat.not_lt_zero, Nat.zero_le, Nat.one_ne_zero, Nat.succ_ne_zero,  lt_def, i32_lit, reduceIte, P_isIn_eq, M_isIn_eq, M_goes_eq, or_false, false_or, or_true, true_or, and_true, true_and, and_false, false_and, not_true, not_false_eq_true, eq_self, if_true, if_false, not_or, not_and, Nat.not_lt, Nat.not_le, io_lt, io_le, io_eq, io_neg1, io_neg1', neg1_lt, io_le_neg1, io_lt_neg1, io_add, io_mul, io_pred, io_modE, natMod, io_sub, io_div, ix_io, gI_sI, gI_sA, gI_sL, gI_sJ, gI_sR, gI_sQ, gI_sD, gI_sN, gI_sz, gA_sI, gA_sA, gA_sL, gA_sJ, gA_sR, gA_sQ, gA_sD, gA_sN, gA_sz, gL_sI, gL_sA, gL_sL, gL_sJ, gL_sR, gL_sQ, gL_sD, gL_sN, gL_sz, gJ_sI, gJ_sA, gJ_sL, gJ_sJ, gJ_sR, gJ_sQ, gJ_sD, gJ_sN, gJ_sz, gR_sI, gR_sA, gR_sL, gR_sJ, gR_sR, gR_sQ, gR_sD, gR_sN, gR_sz, gQ_sI, gQ_sA, gQ_sL, gQ_sJ, gQ_sR, gQ_sQ, gQ_sD, gQ_sN, gQ_sz, gD_sI, gD_sA, gD_sL, gD_sJ, gD_sR, gD_sQ, gD_sD, gD_sN, gD_sz, sz_sI, sz_sA, sz_sL, sz_sJ, sz_sR, sz_sQ, sz_sD, sz_sN, sz_sz]
          · obtain ⟨ha, hb⟩ := K.2 i hi
            have f3' : gA (sI s 2550 (io i)) 69 i = io (8 * gda g i + gdb g i) := Q.2 i hi
            have m2 : (8 * gda g i + gdb g i) / 8 = gda g i := by omega
            have ci : cl (io i) = i := cl_io (by omega)
            rw [ep, if_neg (by rw [io_neg1 (by omega)]; exact id), ci]
            simp (disch := omega) only [f_M_holderOf_b144, Option.bind_some, Nat.reduceEqDiff, Nat.add_zero, Nat.zero_add, Nat.reduceLT, Nat.reduceLeDiff, Nat.reduceAdd, Nat.reduceSub, Nat.reduceMul, Nat.reduceDiv, Nat.lt_irrefl, Nat.not_lt_zero, Nat.zero_le, Nat.one_ne_zero, Nat.succ_ne_zero,  lt_def, i32_lit, reduceIte, P_isIn_eq, M_isIn_eq, M_goes_eq, or_false, false_or, or_true, true_or, and_true, true_and, and_false, false_and, not_true, not_false_eq_true, eq_self, if_true, if_false, not_or, not_and, Nat.not_lt, Nat.not_le, io_lt, io_le, io_eq, io_neg1, io_neg1', neg1_lt, io_le_neg1, io_lt_neg1, io_add, io_mul, io_pred, io_modE, natMod, io_sub, io_div, ix_io, gI_sI, f3', m2]
        rw [hb] at hl
        simp (disch := omega) only [f_M_holderOf, Option.bind_some, Nat.reduceEqDiff, Nat.add_zero, Nat.zero_add, Nat.reduceLT, Nat.reduceLeDiff, Nat.reduceAdd, Nat.reduceSub, Nat.reduceMul, Nat.reduceDiv, Nat.lt_irrefl, Nat.not_lt_zero, Nat.zero_le, Nat.one_ne_zero, Nat.succ_ne_zero,  lt_def, i32_lit, reduceIte, P_isIn_eq, M_isIn_eq, M_goes_eq, or_false, false_or, or_true, true_or, and_true, true_and, and_false, false_and, not_true, not_false_eq_true, eq_self, if_true, if_false, not_or, not_and, Nat.not_lt, Nat.not_le, io_lt, io_le, io_eq, io_neg1, io_neg1', neg1_lt, io_le_neg1, io_lt_neg1, io_add, io_mul, io_pred, io_modE, natMod, io_sub, io_div, ix_io, gI_sI, gI_sA, gI_sL, gI_sJ, gI_sR, gI_sQ, gI_sD, gI_sN, gI_sz, gA_sI, gA_sA, gA_sL, gA_sJ, gA_sR, gA_sQ, gA_sD, gA_sN, gA_sz, gL_sI, gL_sA, gL_sL, gL_sJ, gL_sR, gL_sQ, gL_sD, gL_sN, gL_sz, gJ_sI, gJ_sA, gJ_sL, gJ_sJ, gJ_sR, gJ_sQ, gJ_sD, gJ_sN, gJ_sz, gR_sI, gR_sA, gR_sL, gR_sJ, gR_sR, gR_sQ, gR_sD, gR_sN, gR_sz, gQ_sI, gQ_sA, gQ_sL, gQ_sJ, gQ_sR, gQ_sQ, gQ_sD, gQ_sN, gQ_sz, gD_sI, gD_sA, gD_sL, gD_sJ, gD_sR, gD_sQ, gD_sD, gD_sN, gD_sz, sz_sI, sz_sA, sz_sL, sz_sJ, sz_sR, sz_sQ, sz_sD, sz_sN, sz_sz, M_plan2 P R hj, e, ho, h5, e2, dn_sub]
        exact hl
      · have hpa : paid2 g n d j = -io 1 := by
          unfold paid2
          rw [if_neg h0, if_neg h3]
        have hN := M_night_eq (F := F) (s := sI s 2550 (-io 1)) (j := j) (by omega)
        rw [if_neg h3] at hN
        unfold hold2
        rw [if_neg h0, e, cq, if_pos h5, hpa, if_pos rfl]
        obtain ⟨F', rfl⟩ : ∃ m, F = m + 1 := ⟨F - 1, by omega⟩
        have hb : f_M_holderOf_b85 (F' + 1) (F' + 1) (sI s 2550 (-io 1)) (io j) (io q) (dn d) = some (io q, sI s 2550 (-io 1)) := by
          by_cases hd0 : d = 0
          · subst hd0
            have h1 : dn 0 < io 0 := by decide
            simp (disch := omega) only [f_M_holderOf_b85, f_M_holderOf_b144, i32_lit, h1, if_true, gI_sI]
          · have h1 : ¬ dn d < io 0 := by unfold dn; rw [if_neg hd0, io_lt (by omega) (by omega)]; omega
            simp (disch := omega) only [f_M_holderOf_b85, f_M_holderOf_b144, i32_lit, h1, if_false, hN, Option.bind_some, if_true, gI_sI]
        simp (disch := omega) only [f_M_holderOf, Option.bind_some, Nat.reduceEqDiff, Nat.add_zero, Nat.zero_add, Nat.reduceLT, Nat.reduceLeDiff, Nat.reduceAdd, Nat.reduceSub, Nat.reduceMul, Nat.reduceDiv, Nat.lt_irrefl, Nat.not_lt_zero, Nat.zero_le, Nat.one_ne_zero, Nat.succ_ne_zero,  lt_def, i32_lit, reduceIte, P_isIn_eq, M_isIn_eq, M_goes_eq, or_false, false_or, or_true, true_or, and_true, true_and, and_false, false_and, not_true, not_false_eq_true, eq_self, if_true, if_false, not_or, not_and, Nat.not_lt, Nat.not_le, io_lt, io_le, io_eq, io_neg1, io_neg1', neg1_lt, io_le_neg1, io_lt_neg1, io_add, io_mul, io_pred, io_modE, natMod, io_sub, io_div, ix_io, gI_sI, gI_sA, gI_sL, gI_sJ, gI_sR, gI_sQ, gI_sD, gI_sN, gI_sz, gA_sI, gA_sA, gA_sL, gA_sJ, gA_sR, gA_sQ, gA_sD, gA_sN, gA_sz, gL_sI, gL_sA, gL_sL, gL_sJ, gL_sR, gL_sQ, gL_sD, gL_sN, gL_sz, gJ_sI, gJ_sA, gJ_sL, gJ_sJ, gJ_sR, gJ_sQ, gJ_sD, gJ_sN, gJ_sz, gR_sI, gR_sA, gR_sL, gR_sJ, gR_sR, gR_sQ, gR_sD, gR_sN, gR_sz, gQ_sI, gQ_sA, gQ_sL, gQ_sJ, gQ_sR, gQ_sQ, gQ_sD, gQ_sN, gQ_sz, gD_sI, gD_sA, gD_sL, gD_sJ, gD_sR, gD_sQ, gD_sD, gD_sN, gD_sz, sz_sI, sz_sA, sz_sL, sz_sJ, sz_sR, sz_sQ, sz_sD, sz_sN, sz_sz, M_plan2 P R hj, e, ho, h5, e2, dn_sub]
        exact hb
    · have hpa : paid2 g n d j = -io 1 := by
        unfold paid2
        rw [if_neg h0, e, cq]
        have : ¬ ofb g q j = io 0 := by rw [h5]; decide
        by_cases h1 : j % 3 = 0 <;> simp only [h1, this, reduceIte]
      have hl := M_hold_loop2 (F := F) (P.I (x := -io 1)) (R.I (x := -io 1)) h0 hq hj (n - 1) F (by omega) (by omega)
      rw [Nat.sub_self, fup] at hl
      unfold hold2
      rw [if_neg h0, e, cq, if_neg (by rw [h5]; decide), hpa]
      simp (disch := omega) only [f_M_holderOf, Option.bind_some, Nat.reduceEqDiff, Nat.add_zero, Nat.zero_add, Nat.reduceLT, Nat.reduceLeDiff, Nat.reduceAdd, Nat.reduceSub, Nat.reduceMul, Nat.reduceDiv, Nat.lt_irrefl, Nat.not_lt_zero, Nat.zero_le, Nat.one_ne_zero, Nat.succ_ne_zero,  lt_def, i32_lit, reduceIte, P_isIn_eq, M_isIn_eq, M_goes_eq, or_false, false_or, or_true, true_or, and_true, true_and, and_false, false_and, not_true, not_false_eq_true, eq_self, if_true, if_false, not_or, not_and, Nat.not_lt, Nat.not_le, io_lt, io_le, io_eq, io_neg1, io_neg1', neg1_lt, io_le_neg1, io_lt_neg1, io_add, io_mul, io_pred, io_modE, natMod, io_sub, io_div, ix_io, gI_sI, gI_sA, gI_sL, gI_sJ, gI_sR, gI_sQ, gI_sD, gI_sN, gI_sz, gA_sI, gA_sA, gA_sL, gA_sJ, gA_sR, gA_sQ, gA_sD, gA_sN, gA_sz, gL_sI, gL_sA, gL_sL, gL_sJ, gL_sR, gL_sQ, gL_sD, gL_sN, gL_sz, gJ_sI, gJ_sA, gJ_sL, gJ_sJ, gJ_sR, gJ_sQ, gJ_sD, gJ_sN, gJ_sz, gR_sI, gR_sA, gR_sL, gR_sJ, gR_sR, gR_sQ, gR_sD, gR_sN, gR_sz, gQ_sI, gQ_sA, gQ_sL, gQ_sJ, gQ_sR, gQ_sQ, gQ_sD, gQ_sN, gQ_sz, gD_sI, gD_sA, gD_sL, gD_sJ, gD_sR, gD_sQ, gD_sD, gD_sN, gD_sz, sz_sI, sz_sA, sz_sL, sz_sJ, sz_sR, sz_sQ, sz_sD, sz_sN, sz_sz, M_plan2 P R hj, e, ho, h5, e1]
      exact hl
