/-! the model's recursion; a text is turned into a slot's program -/
section MQT
variable {F n p : Nat} {t : Nat → Nat}
theorem MB.flag {s : St} {cm cm' : Nat} {w cl : List Nat} {c a : List PR} (H : MB s p w c a cm cl) : MB (sA s 49 cl.length (io cm')) p w c a cm' cl := by
  obtain ⟨a1, a2, a3, a4, a5, a6, a7, a8, a9, a10⟩ := H
  refine ⟨a1, a2, a3, a4, a5, a6, a7, a8, a9, ?_, stk_ext cl (fun i hi => ?_) a10.2⟩
  · simp only [gI_sI, gI_sA, gI_sL, gI_sJ, gI_sR, gI_sQ, gI_sD, gI_sN, gI_sz, gA_sI, gA_sA, gA_sL, gA_sJ, gA_sR, gA_sQ, gA_sD, gA_sN, gA_sz, gL_sI, gL_sA, gL_sL, gL_sJ, gL_sR, gL_sQ, gL_sD, gL_sN, gL_sz, gJ_sI, gJ_sA, gJ_sL, gJ_sJ, gJ_sR, gJ_sQ, gJ_sD, gJ_sN, gJ_sz, gR_sI, gR_sA, gR_sL, gR_sJ, gR_sR, gR_sQ, gR_sD, gR_sN, gR_sz, gQ_sI, gQ_sA, gQ_sL, gQ_sJ, gQ_sR, gQ_sQ, gQ_sD, gQ_sN, gQ_sz, gD_sI, gD_sA, gD_sL, gD_sJ, gD_sR, gD_sQ, gD_sD, gD_sN, gD_sz, sz_sI, sz_sA, sz_sL, sz_sJ, sz_sR, sz_sQ, sz_sD, sz_sN, sz_sz, reduceIte]
  · simp only [gI_sI, gI_sA, gI_sL, gI_sJ, gI_sR, gI_sQ, gI_sD, gI_sN, gI_sz, gA_sI, gA_sA, gA_sL, gA_sJ, gA_sR, gA_sQ, gA_sD, gA_sN, gA_sz, gL_sI, gL_sA, gL_sL, gL_sJ, gL_sR, gL_sQ, gL_sD, gL_sN, gL_sz, gJ_sI, gJ_sA, gJ_sL, gJ_sJ, gJ_sR, gJ_sQ, gJ_sD, gJ_sN, gJ_sz, gR_sI, gR_sA, gR_sL, gR_sJ, gR_sR, gR_sQ, gR_sD, gR_sN, gR_sz, gQ_sI, gQ_sA, gQ_sL, gQ_sJ, gQ_sR, gQ_sQ, gQ_sD, gQ_sN, gQ_sz, gD_sI, gD_sA, gD_sL, gD_sJ, gD_sR, gD_sQ, gD_sD, gD_sN, gD_sz, sz_sI, sz_sA, sz_sL, sz_sJ, sz_sR, sz_sQ, sz_sD, sz_sN, sz_sz, reduceIte]; rw [if_neg (by omega)]
theorem sg_rk {g r x : Nat} (hg : (g = 1 ∧ r = 2) ∨ (g = 2 ∧ r = 3)) (h : sgc g x = true) : rkM x = r ∧ qop x ∧ x ≠ 2 ∧ x ≠ 0 := by
  rcases hg with ⟨rfl, rfl⟩ | ⟨rfl, rfl⟩
  · have h1 : x = 43 ∨ x = 45 := of_decide_eq_true h
    refine ⟨?_, by unfold qop; omega, by omega, by omega⟩
    rcases h1 with rfl | rfl <;> rfl
  · have h1 : x = 42 ∨ x = 47 := of_decide_eq_true h
    refine ⟨?_, by unfold qop; omega, by omega, by omega⟩
    rcases h1 with rfl | rfl <;> rfl
/-- a sign between sums or products, when the unit before it is whole -/
theorem sign_Q {i m g r cm : Nat} {w w' cl : List Nat} {c c' a e : List PR} {pd : List Nat} {s : St} (hF : 5000 ≤ F) (T : TXT t n) (hg : (g = 1 ∧ r = 2) ∨ (g = 2 ∧ r = 3)) (hm : n + 2 ≤ m + i) (K : QQ t n p 2 w' c' a cm cl s) (hl : ltq w) (e1 : w' = pd ++ w) (e2 : c' ++ pd.map (fun x => (x, 0)) = c ++ e) (e3 : ∀ x ∈ pd, r ≤ rkM x) (hz : c.length + w.length + e.length ≤ i) (hcl : cl.length ≤ i) (hcm : cm ≤ 1) (tp : tpQ r w) (h : sgc g (t i) = true) :
    ∃ s', TL2 F n t m s i = TL2 F n t (m - 1) s' (i + 1) ∧ FM EQ p s s' ∧ QQ t n p 0 (t i :: w) (c ++ e) a cm cl s' := by
  have hn := T.1
  have hlen := dlen e1 e2
  obtain ⟨K1, K2, K3, K4, f0, hf0, e11⟩ := K
  obtain ⟨hrk, hq, hn2, hn0⟩ := sg_rk hg h
  have i1 : i < n := T.in hn0
  have hr : r < 10 := by omega
  obtain ⟨s1, b1, b2, b4⟩ := putsW_eq (F := F) hr w' F s c' K1 K4 (by omega) (by omega)
  rw [e1, flR_all pd w c' e3 (fun x w' e => (tp x w' e).1), e2] at b2
  have b1' : f_M_putsWaiting F s (io r) = some s1 := b1
  have hwl : w.length < 64 := by omega
  have hra := rank_eq (F := F) (s := s) (tlt (i := i) T)
  rw [hrk] at hra
  have b3 := (b2.flag (cm' := cm)).push (x := t i)
  have fm : FM EQ p s (sI (sI (sA (sA s1 49 cl.length (io cm)) 47 w.length (io (t i))) 2515 (io (w.length + 1))) 2505 (io 0)) := ((((b4.wide (by decide)).A (by omega)).A (by omega)).I (by decide)).I (by decide)
  refine ⟨_, ?_, fm, ⟨b3.I, rfl, fm.mt K3 (by decide), fun x hx => ?_, f0, hf0, ?_⟩⟩
  · refine TL_step (st := 0) T (fm.mt K3 (by decide)) i1 hm ?_ rfl (by omega) (by omega) (by omega)
    have e18 := b2.2.2.2.2.2.2.2.2.1
    have e15 := b2.2.2.2.2.2.2.1
    have e49 := b2.2.2.2.2.2.2.2.2.2.1
    have r1 : ¬ r = 1 := by omega
    have r0 : ¬ r = 0 := by omega
    have rl : ¬ r ≤ 0 := by omega
    have ea : f_M_goesBehind F s (io (t i)) = f_M_goesBehind_b41 F s (io (t i)) (io r) := by
      simp (disch := omega) only [f_M_goesBehind, Option.bind_some, Nat.reduceEqDiff, Nat.add_zero, Nat.zero_add, Nat.reduceLT, Nat.reduceLeDiff, Nat.reduceAdd, Nat.reduceSub, Nat.reduceMul, Nat.reduceDiv, Nat.lt_irrefl, Nat.not_lt_zero, Nat.zero_le, Nat.one_ne_zero, Nat.succ_ne_zero,  lt_def, i32_lit, reduceIte, P_isIn_eq, M_isIn_eq, M_goes_eq, or_false, false_or, or_true, true_or, and_true, true_and, and_false, false_and, not_true, not_false_eq_true, eq_self, if_true, if_false, not_or, not_and, Nat.not_lt, Nat.not_le, hra, io_eq, r1, r0]
    have eb : f_M_goesBehind_b41 F s (io (t i)) (io r) = f_M_goesBehind_b56 F s (io (t i)) (io r) (io r) := by
      simp (disch := omega) only [f_M_goesBehind_b41, Option.bind_some, Nat.reduceEqDiff, Nat.add_zero, Nat.zero_add, Nat.reduceLT, Nat.reduceLeDiff, Nat.reduceAdd, Nat.reduceSub, Nat.reduceMul, Nat.reduceDiv, Nat.lt_irrefl, Nat.not_lt_zero, Nat.zero_le, Nat.one_ne_zero, Nat.succ_ne_zero,  lt_def, i32_lit, reduceIte, P_isIn_eq, M_isIn_eq, M_goes_eq, or_false, false_or, or_true, true_or, and_true, true_and, and_false, false_and, not_true, not_false_eq_true, eq_self, if_true, if_false, not_or, not_and, Nat.not_lt, Nat.not_le, io_le, io_eq, r1, rl]
    have ec : f_M_goesBehind_b56 F s (io (t i)) (io r) (io r) = some (io 1, sI (sI (sA (sA s1 49 cl.length (io cm)) 47 w.length (io (t i))) 2515 (io (w.length + 1))) 2505 (io 0)) := by
      rcases (by omega : cm = 0 ∨ cm = 1) with rfl | rfl
      · simp (disch := omega) only [f_M_goesBehind_b56, f_M_goesBehind_b89, Option.bind_some, Nat.reduceEqDiff, Nat.add_zero, Nat.zero_add, Nat.reduceLT, Nat.reduceLeDiff, Nat.reduceAdd, Nat.reduceSub, Nat.reduceMul, Nat.reduceDiv, Nat.lt_irrefl, Nat.not_lt_zero, Nat.zero_le, Nat.one_ne_zero, Nat.succ_ne_zero,  lt_def, i32_lit, reduceIte, P_isIn_eq, M_isIn_eq, M_goes_eq, or_false, false_or, or_true, true_or, and_true, true_and, and_false, false_and, not_true, not_false_eq_true, eq_self, if_true, if_false, not_or, not_and, Nat.not_lt, Nat.not_le, io_eq, r1, b1', e18, ix_io, e49, e15, gI_sA, io_add]
      · simp (disch := omega) only [f_M_goesBehind_b56, f_M_goesBehind_b89, Option.bind_some, Nat.reduceEqDiff, Nat.add_zero, Nat.zero_add, Nat.reduceLT, Nat.reduceLeDiff, Nat.reduceAdd, Nat.reduceSub, Nat.reduceMul, Nat.reduceDiv, Nat.lt_irrefl, Nat.not_lt_zero, Nat.zero_le, Nat.one_ne_zero, Nat.succ_ne_zero,  lt_def, i32_lit, reduceIte, P_isIn_eq, M_isIn_eq, M_goes_eq, or_false, false_or, or_true, true_or, and_true, true_and, and_false, false_and, not_true, not_false_eq_true, eq_self, if_true, if_false, not_or, not_and, Nat.not_lt, Nat.not_le, io_eq, r1, b1', e18, ix_io, e49, e15, gI_sA, io_add]
    simp (disch := omega) only [f_M_reads_b31, Option.bind_some, Nat.reduceEqDiff, Nat.add_zero, Nat.zero_add, Nat.reduceLT, Nat.reduceLeDiff, Nat.reduceAdd, Nat.reduceSub, Nat.reduceMul, Nat.reduceDiv, Nat.lt_irrefl, Nat.not_lt_zero, Nat.zero_le, Nat.one_ne_zero, Nat.succ_ne_zero,  lt_def, i32_lit, reduceIte, P_isIn_eq, M_isIn_eq, M_goes_eq, or_false, false_or, or_true, true_or, and_true, true_and, and_false, false_and, not_true, not_false_eq_true, eq_self, if_true, if_false, not_or, not_and, Nat.not_lt, Nat.not_le, K2, io_eq, ea, eb, ec]
  · rcases List.mem_cons.mp hx with h | h
    · rw [h]; exact tlt T
    · exact hl x h
  · show gI s1 2511 = _
    rw [b4.1.gi 2511 (by decide)]; exact e11
theorem chn_Q {g r i0 cm : Nat} {w cl : List Nat} {c a : List PR} {part : Nat → Option (List QT) × Nat} (hF : 5000 ≤ F) (T : TXT t n) (hg : (g = 1 ∧ r = 2) ∨ (g = 2 ∧ r = 3)) (hl : ltq w) (tp : tpQ r w) (hcm : cm ≤ 1) (hcl : cl.length ≤ i0) (hgd : ∀ i, i ≤ n → GD n i (part i) (fun _ _ => True))
    (hpart : ∀ i m s w2 c2 a2, i0 ≤ i → i ≤ n → n + 2 ≤ m + i → QQ t n p 0 w2 c2 a2 cm cl s → c2.length + w2.length ≤ i → a2.length ≤ i → tpQ (r + 1) w2 → RQ F t n p cl (Dr (r + 1) w2 c2 a2 cm) (TL2 F n t m s i) s (m + i) (part i)) :
    ∀ k acc i m s w' c' a', i0 < i → i ≤ n → n + 2 ≤ m + i → QQ t n p 2 w' c' a' cm cl s → a'.length ≤ i → Dr r w c a cm acc i a' w' c' cm → c.length + w.length + acc.length ≤ i → RQ F t n p cl (Dr r w c a cm) (TL2 F n t m s i) s (m + i) (chn t part (sgc g) tkQ k acc i) := by
  have hn := T.1
  intro k
  induction k with
  | zero =>
    intro acc i m s w' c' a' h0 hi hm K ha D hz
    exact ⟨fun h => (by cases h), fun cc hc => by cases hc; exact ⟨s, m, w', c', a', cm, rfl, rfl, FM.rf, K, ha, D⟩⟩
  | succ k ih =>
    intro acc i m s w' c' a' h0 hi hm K ha D hz
    unfold chn
    by_cases h : sgc g (t i) = true
    · rw [if_pos h]
      obtain ⟨-, ⟨z1, d1⟩, e, pd, d2, d3, d4, d5⟩ := D
      have hel := d2.len
      obtain ⟨hrk, hq, hn2, hn0⟩ := sg_rk hg h
      have i1 : i < n := T.in hn0
      obtain ⟨s1, x1, x2, x3⟩ := sign_Q (F := F) hF T hg hm K hl d3 d4 d5 (by omega) (by omega) hcm tp h
      have htp : tpQ (r + 1) (t i :: w) := fun x w' ee => by
        cases ee
        exact ⟨by omega, hn2⟩
      have hp := hpart (i + 1) (m - 1) s1 _ _ _ (by omega) i1 (by omega) x3 (by rw [List.length_append]; show c.length + e.length + (w.length + 1) ≤ i + 1; omega) (by omega) htp
      rw [show m - 1 + (i + 1) = m + i by omega] at hp
      obtain ⟨g1, g2, g3⟩ := hgd (i + 1) i1
      rw [x1]
      cases hr : (part (i + 1)).1 with
      | none =>
        obtain ⟨s', y1, y2⟩ := hp.1 hr
        exact RQ.fail ⟨s', y1, x2.trans y2⟩
      | some cc =>
        obtain ⟨y1, y2, -⟩ := g3 cc hr
        obtain ⟨s2, m2, w3, c3, a3, cm3, u1, u2, u3, u4, u5, u6, ⟨z2, u7⟩, e3, pd3, u8, u9, u10, u11⟩ := hp.2 cc hr
        subst u6
        have el3 := u8.len
        have D2 : Dr r w c a cm3 (acc ++ cc ++ [tkQ (t i)]) (part (i + 1)).2 a3 w3 c3 cm3 := by
          refine ⟨rfl, ⟨z1 ++ z2, by rw [u7, d1, List.append_assoc]⟩, e ++ e3 ++ [(t i, 0)], pd3 ++ [t i], ?_, by rw [u9, List.append_assoc]; rfl, ?_, fun x hx => ?_⟩
          · refine MCs.app (MCs.app ?_ u8) (MCs.one (Or.inr (Or.inr (Or.inl ⟨hq, rfl⟩))))
            rw [u7]; exact d2.ext
          · rw [List.map_append, ← List.append_assoc, u10]
            simp only [List.append_assoc]
            rfl
          · rcases List.mem_append.mp hx with hx | hx
            · have := u11 x hx; omega
            · rw [List.mem_singleton.mp hx]; omega
        have hh := (ih (acc ++ cc ++ [tkQ (t i)]) (part (i + 1)).2 m2 s2 w3 c3 a3 (by omega) g2 (by omega) u4 u5 D2 (by rw [List.length_append, List.length_append]; show c.length + w.length + (acc.length + cc.length + 1) ≤ _; omega)).pre (x2.trans u3)
        rw [u2] at hh
        rw [u1]
        exact hh
    · rw [if_neg h]
      exact ⟨fun h => (by cases h), fun cc hc => by cases hc; exact ⟨s, m, w', c', a', cm, rfl, rfl, FM.rf, K, ha, D⟩⟩
/-- a comparison's sign -/
theorem cmp_Q {i m : Nat} {w w' cl : List Nat} {c c' a e : List PR} {pd : List Nat} {s : St} (hF : 5000 ≤ F) (T : TXT t n) (hm : n + 2 ≤ m + i) (K : QQ t n p 2 w' c' a 0 cl s) (hl : ltq w) (e1 : w' = pd ++ w) (e2 : c' ++ pd.map (fun x => (x, 0)) = c ++ e) (e3 : ∀ x ∈ pd, 2 ≤ rkM x) (hz : c.length + w.length + e.length ≤ i) (hcl : cl.length ≤ i) (tp : tpQ 1 w) (h : sgc 0 (t i) = true) :
    ∃ s', TL2 F n t m s i = TL2 F n t (m - 1) s' (i + 1) ∧ FM EQ p s s' ∧ QQ t n p 0 (t i :: w) (c ++ e) a 1 cl s' := by
  have hn := T.1
  have hlen := dlen e1 e2
  obtain ⟨K1, K2, K3, K4, f0, hf0, e11⟩ := K
  have hc : cmc (t i) = true := h
  have hrk : rkM (t i) = 1 := by rw [rkM_cmc]; exact hc
  have i1 : i < n := T.bin (f := cmc) hc
  obtain ⟨s1, b1, b2, b4⟩ := putsW_eq (F := F) (r := 2) (by omega) w' F s c' K1 K4 (by omega) (by omega)
  rw [e1, flR_all pd w c' e3 (fun x w' e => by have := (tp x w' e).1; omega), e2] at b2
  have b1' : f_M_putsWaiting F s (io 2) = some s1 := b1
  have hwl : w.length < 64 := by omega
  have hra := rank_eq (F := F) (s := s) (tlt (i := i) T)
  rw [hrk] at hra
  have b3 := (b2.flag (cm' := 1)).push (x := t i)
  have fm : FM EQ p s (sI (sI (sA (sA s1 49 cl.length (io 1)) 47 w.length (io (t i))) 2515 (io (w.length + 1))) 2505 (io 0)) := ((((b4.wide (by decide)).A (by omega)).A (by omega)).I (by decide)).I (by decide)
  refine ⟨_, ?_, fm, ⟨b3.I, rfl, fm.mt K3 (by decide), fun x hx => ?_, f0, hf0, ?_⟩⟩
  · refine TL_step (st := 0) T (fm.mt K3 (by decide)) i1 hm ?_ rfl (by omega) (by omega) (by omega)
    have f18 := K1.2.2.2.2.2.2.2.2.1
    have f49 := K1.2.2.2.2.2.2.2.2.2.1
    have e18 := b2.2.2.2.2.2.2.2.2.1
    have e15 := b2.2.2.2.2.2.2.1
    have e49 := b2.2.2.2.2.2.2.2.2.2.1
    have ea : f_M_goesBehind F s (io (t i)) = f_M_goesBehind_b41 F s (io (t i)) (io 1) := by
      simp (disch := omega) only [f_M_goesBehind, Option.bind_some, Nat.reduceEqDiff, Nat.add_zero, Nat.zero_add, Nat.reduceLT, Nat.reduceLeDiff, Nat.reduceAdd, Nat.reduceSub, Nat.reduceMul, Nat.reduceDiv, Nat.lt_irrefl, Nat.not_lt_zero, Nat.zero_le, Nat.one_ne_zero, Nat.succ_ne_zero,  lt_def, i32_lit, reduceIte, P_isIn_eq, M_isIn_eq, M_goes_eq, or_false, false_or, or_true, true_or, and_true, true_and, and_false, false_and, not_true, not_false_eq_true, eq_self, if_true, if_false, not_or, not_and, Nat.not_lt, Nat.not_le, hra, io_eq, f18, ix_io, f49]
    have eb : f_M_goesBehind_b41 F s (io (t i)) (io 1) = f_M_goesBehind_b56 F s (io (t i)) (io 1) (io 2) := by
      simp (disch := omega) only [f_M_goesBehind_b41, Option.bind_some, Nat.reduceEqDiff, Nat.add_zero, Nat.zero_add, Nat.reduceLT, Nat.reduceLeDiff, Nat.reduceAdd, Nat.reduceSub, Nat.reduceMul, Nat.reduceDiv, Nat.lt_irrefl, Nat.not_lt_zero, Nat.zero_le, Nat.one_ne_zero, Nat.succ_ne_zero,  lt_def, i32_lit, reduceIte, P_isIn_eq, M_isIn_eq, M_goes_eq, or_false, false_or, or_true, true_or, and_true, true_and, and_false, false_and, not_true, not_false_eq_true, eq_self, if_true, if_false, not_or, not_and, Nat.not_lt, Nat.not_le, io_le, io_eq]
    have ec : f_M_goesBehind_b56 F s (io (t i)) (io 1) (io 2) = some (io 1, sI (sI (sA (sA s1 49 cl.length (io 1)) 47 w.length (io (t i))) 2515 (io (w.length + 1))) 2505 (io 0)) := by
      simp (disch := omega) only [f_M_goesBehind_b56, f_M_goesBehind_b89, Option.bind_some, Nat.reduceEqDiff, Nat.add_zero, Nat.zero_add, Nat.reduceLT, Nat.reduceLeDiff, Nat.reduceAdd, Nat.reduceSub, Nat.reduceMul, Nat.reduceDiv, Nat.lt_irrefl, Nat.not_lt_zero, Nat.zero_le, Nat.one_ne_zero, Nat.succ_ne_zero,  lt_def, i32_lit, reduceIte, P_isIn_eq, M_isIn_eq, M_goes_eq, or_false, false_or, or_true, true_or, and_true, true_and, and_false, false_and, not_true, not_false_eq_true, eq_self, if_true, if_false, not_or, not_and, Nat.not_lt, Nat.not_le, io_eq, b1', e18, ix_io, e49, e15, gI_sA, io_add]
    simp (disch := omega) only [f_M_reads_b31, Option.bind_some, Nat.reduceEqDiff, Nat.add_zero, Nat.zero_add, Nat.reduceLT, Nat.reduceLeDiff, Nat.reduceAdd, Nat.reduceSub, Nat.reduceMul, Nat.reduceDiv, Nat.lt_irrefl, Nat.not_lt_zero, Nat.zero_le, Nat.one_ne_zero, Nat.succ_ne_zero,  lt_def, i32_lit, reduceIte, P_isIn_eq, M_isIn_eq, M_goes_eq, or_false, false_or, or_true, true_or, and_true, true_and, and_false, false_and, not_true, not_false_eq_true, eq_self, if_true, if_false, not_or, not_and, Nat.not_lt, Nat.not_le, K2, io_eq, ea, eb, ec]
  · rcases List.mem_cons.mp hx with h | h
    · rw [h]; exact tlt T
    · exact hl x h
  · show gI s1 2511 = _
    rw [b4.1.gi 2511 (by decide)]; exact e11
/-- nothing goes on behind a whole test -/
theorem behind_fail {i m cm : Nat} {w cl : List Nat} {c a : List PR} {s : St} (T : TXT t n) (hi : i ≤ n) (K : QQ t n p 2 w c a cm cl s) (hcl : cl.length ≤ 40) (h2 : sgc 2 (t i) = false) (h1 : sgc 1 (t i) = false) (h0 : (cm = 0 ∧ sgc 0 (t i) = false) ∨ cm = 1) (hx : t i ≠ 41 ∨ cl.length = 0) (hend : i = n → cl.length ≠ 0) : ∃ s', TL2 F n t m s i = some (io i, s') ∧ FM EQ p s s' := by
  have hn := T.1
  obtain ⟨K1, K2, K3, K4, -⟩ := K
  have f18 := K1.2.2.2.2.2.2.2.2.1
  have f49 := K1.2.2.2.2.2.2.2.2.2.1
  refine ⟨s, ?_, FM.rf⟩
  by_cases hin : i = n
  · subst hin
    have hc0 : ¬ cl.length ≤ 0 := by have := hend rfl; omega
    unfold TL2
    rw [if_pos (Nat.le_refl _)]
    simp (disch := omega) only [f_M_turns_b90, Option.bind_some, Nat.reduceEqDiff, Nat.add_zero, Nat.zero_add, Nat.reduceLT, Nat.reduceLeDiff, Nat.reduceAdd, Nat.reduceSub, Nat.reduceMul, Nat.reduceDiv, Nat.lt_irrefl, Nat.not_lt_zero, Nat.zero_le, Nat.one_ne_zero, Nat.succ_ne_zero,  lt_def, i32_lit, reduceIte, P_isIn_eq, M_isIn_eq, M_goes_eq, or_false, false_or, or_true, true_or, and_true, true_and, and_false, false_and, not_true, not_false_eq_true, eq_self, if_true, if_false, not_or, not_and, Nat.not_lt, Nat.not_le, K2, io_le, f18, hc0, K3.1]
  · unfold TL2
    rw [if_neg (by omega)]
    have hra := rank_eq (F := F) (s := s) (tlt (i := i) T)
    have n1 : ¬ (t i = 42 ∨ t i = 47) := of_decide_eq_false h2
    have n2 : ¬ (t i = 43 ∨ t i = 45) := of_decide_eq_false h1
    have ht := tlt (i := i) T
    by_cases hc : cmc (t i) = true
    · have hcm : cm = 1 := by
        rcases h0 with ⟨-, h9⟩ | h9
        · have h9' : cmc (t i) = false := h9
          rw [hc] at h9'; cases h9'
        · exact h9
      have hrk : rkM (t i) = 1 := by rw [rkM_cmc]; exact hc
      rw [hrk] at hra
      subst hcm
      simp (disch := omega) only [f_M_reads_b31, f_M_goesBehind, Option.bind_some, Nat.reduceEqDiff, Nat.add_zero, Nat.zero_add, Nat.reduceLT, Nat.reduceLeDiff, Nat.reduceAdd, Nat.reduceSub, Nat.reduceMul, Nat.reduceDiv, Nat.lt_irrefl, Nat.not_lt_zero, Nat.zero_le, Nat.one_ne_zero, Nat.succ_ne_zero,  lt_def, i32_lit, reduceIte, P_isIn_eq, M_isIn_eq, M_goes_eq, or_false, false_or, or_true, true_or, and_true, true_and, and_false, false_and, not_true, not_false_eq_true, eq_self, if_true, if_false, not_or, not_and, Nat.not_lt, Nat.not_le, K2, io_eq, hra, f18, ix_io, f49]
    · have hrk : rkM (t i) = 0 := by
        unfold rkM
        have n3 : ¬ (t i = 60 ∨ t i = 62 ∨ t i = 61) := fun h => hc (decide_eq_true h)
        rw [if_neg n1, if_neg n2, if_neg n3]
      rw [hrk] at hra
      by_cases h41 : t i = 41
      · have hc0 := hx.resolve_left (fun h => h h41)
        rw [h41] at hra
        simp (disch := omega) only [f_M_reads_b31, f_M_goesBehind, Option.bind_some, Nat.reduceEqDiff, Nat.add_zero, Nat.zero_add, Nat.reduceLT, Nat.reduceLeDiff, Nat.reduceAdd, Nat.reduceSub, Nat.reduceMul, Nat.reduceDiv, Nat.lt_irrefl, Nat.not_lt_zero, Nat.zero_le, Nat.one_ne_zero, Nat.succ_ne_zero,  lt_def, i32_lit, reduceIte, P_isIn_eq, M_isIn_eq, M_goes_eq, or_false, false_or, or_true, true_or, and_true, true_and, and_false, false_and, not_true, not_false_eq_true, eq_self, if_true, if_false, not_or, not_and, Nat.not_lt, Nat.not_le, K2, io_eq, hra, f18, h41, hc0]
      · simp (disch := omega) only [f_M_reads_b31, f_M_goesBehind, Option.bind_some, Nat.reduceEqDiff, Nat.add_zero, Nat.zero_add, Nat.reduceLT, Nat.reduceLeDiff, Nat.reduceAdd, Nat.reduceSub, Nat.reduceMul, Nat.reduceDiv, Nat.lt_irrefl, Nat.not_lt_zero, Nat.zero_le, Nat.one_ne_zero, Nat.succ_ne_zero,  lt_def, i32_lit, reduceIte, P_isIn_eq, M_isIn_eq, M_goes_eq, or_false, false_or, or_true, true_or, and_true, true_and, and_false, false_and, not_true, not_false_eq_true, eq_self, if_true, if_false, not_or, not_and, Nat.not_lt, Nat.not_le, K2, io_eq, hra, h41]
def DG (t : Nat → Nat) (g : Nat) (w : List Nat) (c a : List PR) (cm : Nat) : DT := if g = 6 then D6 w c a cm else if g = 0 then D0 t w c a else Dr (g + 1) w c a cm
theorem Dr.q {r cm cm' j : Nat} {w w' : List Nat} {c c' a a' : List PR} {cq : List QT} (h : Dr r w c a cm cq j a' w' c' cm') (hr : 1 ≤ r) (hl : ltq w) : ltq w' := by
  obtain ⟨-, -, e, pd, -, rfl, -, h3⟩ := h
  intro x hx
  rcases List.mem_append.mp hx with h | h
  · exact rkM_lt (Nat.le_trans hr (h3 x h))
  · exact hl x h
theorem MQQ (hF : 5000 ≤ F) (T : TXT t n) : ∀ d g i m s w c a cm cl, (g = 0 ∨ g = 1 ∨ g = 2 ∨ g = 6) → i ≤ n → n + 2 ≤ m + i → 4 * (n - i) + (if g = 6 then 1 else 4 - g) ≤ d → QQ t n p 0 w c a cm cl s → c.length + w.length ≤ i → a.length ≤ i → cl.length ≤ i → cm ≤ 1 → (g = 0 → cm = 0) → (g = 6 ∨ tpQ (g + 1) w) → RQ F t n p cl (DG t g w c a cm) (TL2 F n t m s i) s (m + i) (pQ t d g i) := by
  have hn := T.1
  intro d
  induction d with
  | zero => intro g i m s w c a cm cl hg hi hm hd; exfalso; rcases hg with rfl | rfl | rfl | rfl <;> simp at hd
  | succ d ih =>
    intro g i m s w c a cm cl hg hi hm hd K hz ha hcl hcm hc0 htp
    have hT : ∀ {g r part i0}, ((g = 1 ∧ r = 2) ∨ (g = 2 ∧ r = 3)) → (∀ i, i ≤ n → GD n i (part i) (fun _ _ => True)) → i0 = i → tpQ r w →
        (∀ i m s w2 c2 a2, i0 ≤ i → i ≤ n → n + 2 ≤ m + i → QQ t n p 0 w2 c2 a2 cm cl s → c2.length + w2.length ≤ i → a2.length ≤ i → tpQ (r + 1) w2 → RQ F t n p cl (Dr (r + 1) w2 c2 a2 cm) (TL2 F n t m s i) s (m + i) (part i)) → RQ F t n p cl (Dr r w c a cm) (TL2 F n t m s i) s (m + i) (chain t part (sgc g) tkQ 40 i) := by
      intro g r part i0 hgr hgd hi0 tp hpart
      subst hi0
      have hp := hpart i0 m s w c a (Nat.le_refl _) hi hm K hz ha (fun x w' e => ⟨by have := (tp x w' e).1; omega, (tp x w' e).2⟩)
      obtain ⟨g1, g2, g3⟩ := hgd i0 hi
      unfold chain
      cases hr : (part i0).1 with
      | none =>
        obtain ⟨s', x1, x2⟩ := hp.1 hr
        exact RQ.fail ⟨s', x1, x2⟩
      | some cc =>
        obtain ⟨y1, y2, -⟩ := g3 cc hr
        obtain ⟨s2, m2, w3, c3, a3, cm3, u1, u2, u3, u4, u5, u6, u7, e3, pd3, u8, u9, u10, u11⟩ := hp.2 cc hr
        subst u6
        have el3 := u8.len
        have D : Dr r w c a cm3 cc (part i0).2 a3 w3 c3 cm3 := ⟨rfl, u7, e3, pd3, u8, u9, u10, fun x hx => by have := u11 x hx; omega⟩
        have hh := (chn_Q (F := F) hF T hgr K.2.2.2.1 tp hcm hcl hgd hpart 40 cc (part i0).2 m2 s2 w3 c3 a3 y1 g2 (by omega) u4 u5 D (by omega)).pre u3
        rw [u2] at hh
        rw [u1]
        exact hh
    rcases hg with rfl | rfl | rfl | rfl
    · have hd' : 4 * (n - i) + 4 ≤ d + 1 := hd
      have hcm0 := hc0 rfl
      subst hcm0
      have tp : tpQ 1 w := htp.resolve_left (by omega)
      show RQ F t n p cl (D0 t w c a) (TL2 F n t m s i) s (m + i) (chain t (pQ t d 1) (sgc 0) tkQ 1 i)
      have hp : RQ F t n p cl (Dr 2 w c a 0) (TL2 F n t m s i) s (m + i) (pQ t d 1 i) := ih 1 i m s w c a 0 cl (by omega) hi hm (by show 4 * (n - i) + 3 ≤ d; omega) K hz ha hcl (by omega) (by omega) (Or.inr (fun x w' e => ⟨by have := (tp x w' e).1; omega, (tp x w' e).2⟩))
      obtain ⟨g1, g2, g3⟩ := pQ_gd T d 1 i (by omega) hi
      unfold chain
      cases hr : (pQ t d 1 i).1 with
      | none =>
        obtain ⟨s', x1, x2⟩ := hp.1 hr
        exact RQ.fail ⟨s', x1, x2⟩
      | some cc =>
        obtain ⟨y1, y2, y3, y4, y5⟩ := g3 cc hr
        obtain ⟨s2, m2, w3, c3, a3, cm3, u1, u2, u3, u4, u5, u6, ⟨z1, u7⟩, e3, pd3, u8, u9, u10, u11⟩ := hp.2 cc hr
        subst u6
        have el3 := u8.len
        dsimp only
        show RQ F t n p cl (D0 t w c a) (TL2 F n t m s i) s (m + i) (chn t (pQ t d 1) (sgc 0) tkQ (0 + 1) cc (pQ t d 1 i).2)
        unfold chn
        by_cases h : sgc 0 (t (pQ t d 1 i).2) = true
        · rw [if_pos h]
          have hc : cmc (t (pQ t d 1 i).2) = true := h
          have j1 : (pQ t d 1 i).2 < n := T.bin (f := cmc) hc
          have hrk : rkM (t (pQ t d 1 i).2) = 1 := by rw [rkM_cmc]; exact hc
          have hqo : qop (t (pQ t d 1 i).2) := qop_of (g := 0) h (by omega)
          obtain ⟨s3, x1, x2, x3⟩ := cmp_Q (F := F) (i := (pQ t d 1 i).2) (m := m2) hF T (by omega) u4 K.2.2.2.1 u9 u10 u11 (by omega) (by omega) tp h
          have hp2 : RQ F t n p cl (Dr 2 (t (pQ t d 1 i).2 :: w) (c ++ e3) a3 1) (TL2 F n t (m2 - 1) s3 ((pQ t d 1 i).2 + 1)) s3 (m2 - 1 + ((pQ t d 1 i).2 + 1)) (pQ t d 1 ((pQ t d 1 i).2 + 1)) := ih 1 ((pQ t d 1 i).2 + 1) (m2 - 1) s3 _ _ _ 1 cl (by omega) j1 (by omega) (by show 4 * (n - ((pQ t d 1 i).2 + 1)) + 3 ≤ d; omega) x3 (by rw [List.length_append]; show c.length + e3.length + (w.length + 1) ≤ _; omega) (by omega) (by omega) (by omega) (by omega) (Or.inr (fun x w' e => by cases e; exact ⟨by omega, fun e9 => by rw [e9] at hrk; exact absurd hrk (by decide)⟩))
          rw [show m2 - 1 + ((pQ t d 1 i).2 + 1) = m + i by omega] at hp2
          obtain ⟨k1, k2, k3⟩ := pQ_gd T d 1 ((pQ t d 1 i).2 + 1) (by omega) j1
          rw [u1, x1]
          cases hr2 : (pQ t d 1 ((pQ t d 1 i).2 + 1)).1 with
          | none =>
            obtain ⟨s', v1, v2⟩ := hp2.1 hr2
            exact RQ.fail ⟨s', v1, (u3.trans x2).trans v2⟩
          | some cc2 =>
            obtain ⟨s4, m4, w5, c5, a5, cm5, v1, v2, v3, v4, v5, v6, ⟨z2, v7⟩, e5, pd5, v8, v9, v10, v11⟩ := hp2.2 cc2 hr2
            subst v6
            refine ⟨fun h => (by cases h), fun cq hcq => ?_⟩
            cases hcq
            refine ⟨s4, m4, w5, c5, a5, 1, v1, v2, (u3.trans x2).trans v3, v4, v5, Or.inr rfl, ⟨z1 ++ z2, by rw [v7, u7, List.append_assoc]⟩, e3 ++ e5 ++ [(t (pQ t d 1 i).2, 0)], pd5 ++ [t (pQ t d 1 i).2], ?_, by rw [v9, List.append_assoc]; rfl, ?_, fun x hx => ?_⟩
            · refine MCs.app (MCs.app ?_ v8) (MCs.one (Or.inr (Or.inr (Or.inl ⟨hqo, rfl⟩))))
              rw [v7]; exact u8.ext
            · rw [List.map_append, ← List.append_assoc, v10]
              simp only [List.append_assoc]
              rfl
            · rcases List.mem_append.mp hx with hx | hx
              · have := v11 x hx; omega
              · rw [List.mem_singleton.mp hx]; omega
        · rw [if_neg h]
          refine ⟨fun h => (by cases h), fun cq hcq => ?_⟩
          cases hcq
          exact ⟨s2, m2, w3, c3, a3, 0, u1, u2, u3, u4, u5, Or.inl ⟨rfl, by simpa using h⟩, ⟨z1, u7⟩, e3, pd3, u8, u9, u10, fun x hx => by have := u11 x hx; omega⟩
    · have hd' : 4 * (n - i) + 3 ≤ d + 1 := hd
      exact hT (Or.inl ⟨rfl, rfl⟩) (fun i hi => (pQ_gd T d 2 i (by omega) hi).tt) rfl (htp.resolve_left (by omega)) (fun i' m' s' w2 c2 a2 h1 h2 h3 h4 h5 h6 h7 => ih 2 i' m' s' w2 c2 a2 cm cl (by omega) h2 h3 (by show 4 * (n - i') + 2 ≤ d; omega) h4 h5 h6 (by omega) hcm (by omega) (Or.inr h7))
    · have hd' : 4 * (n - i) + 2 ≤ d + 1 := hd
      refine hT (Or.inr ⟨rfl, rfl⟩) (fun i hi => (pQ_gd T d 6 i (by omega) hi).tt) rfl (htp.resolve_left (by omega)) (fun i' m' s' w2 c2 a2 h1 h2 h3 h4 h5 h6 h7 => ?_)
      have h : RQ F t n p cl (D6 w2 c2 a2 cm) (TL2 F n t m' s' i') s' (m' + i') (pQ t d 6 i') := ih 6 i' m' s' w2 c2 a2 cm cl (by omega) h2 h3 (by show 4 * (n - i') + 1 ≤ d; omega) h4 h5 h6 (by omega) hcm (by omega) (Or.inl rfl)
      refine h.imp (fun cc a' w' c' cm' _ D => ?_)
      obtain ⟨d1, d2, e, d3, d4, d5⟩ := D
      rw [flN_no (fun x w' e => (h7 x w' e).2)] at d4 d5
      exact ⟨d1, d2, e, [], d3, d4, by rw [d5]; exact List.append_nil _, fun x hx => (List.not_mem_nil hx).elim⟩
    · have hd' : 4 * (n - i) + 1 ≤ d + 1 := hd
      show RQ F t n p cl (D6 w c a cm) (TL2 F n t m s i) s (m + i) (if t i = 45 then post (tkQ 126) (pQ t d 6 (i + 1)) else if t i = 40 then clo t (pQ t d 0 (i + 1)) else if agc (t i) = true then pAg t (d - 1) i else numE (pNum t i))
      obtain ⟨K1, K2, K3, K4, f0, hf0, e11⟩ := id K
      have ht := tlt (i := i) T
      have hfig := isFigure_eq (F := F) (s := s) ht
      have hwl : w.length < 64 := by omega
      have e15 := K1.2.2.2.2.2.2.1
      have e18 := K1.2.2.2.2.2.2.2.2.1
      by_cases h1 : t i = 45
      · rw [if_pos h1]
        have i1 := T.in' h1
        rw [h1, if_neg (by decide)] at hfig
        have fm : FM EQ p s (sI (sA s 47 w.length (io 2)) 2515 (io (w.length + 1))) := (FM.rf.A (by omega)).I (by decide)
        have e1 : f_M_reads_b31 F s (io (t i)) = some (io 1, sI (sA s 47 w.length (io 2)) 2515 (io (w.length + 1))) := by
          rw [h1]
          simp (disch := omega) only [f_M_reads_b31, f_M_goesToUnit, Option.bind_some, Nat.reduceEqDiff, Nat.add_zero, Nat.zero_add, Nat.reduceLT, Nat.reduceLeDiff, Nat.reduceAdd, Nat.reduceSub, Nat.reduceMul, Nat.reduceDiv, Nat.lt_irrefl, Nat.not_lt_zero, Nat.zero_le, Nat.one_ne_zero, Nat.succ_ne_zero,  lt_def, i32_lit, reduceIte, P_isIn_eq, M_isIn_eq, M_goes_eq, or_false, false_or, or_true, true_or, and_true, true_and, and_false, false_and, not_true, not_false_eq_true, eq_self, if_true, if_false, not_or, not_and, Nat.not_lt, Nat.not_le, K2, io_eq, hfig, e15, ix_io, gI_sA, io_add]
        have KK : QQ t n p 0 (2 :: w) c a cm cl (sI (sA s 47 w.length (io 2)) 2515 (io (w.length + 1))) := ⟨K1.push, K2, K3, fun x hx => by
          rcases List.mem_cons.mp hx with h | h
          · rw [h]; omega
          · exact K4 x h, f0, hf0, e11⟩
        have h : RQ F t n p cl (D6 (2 :: w) c a cm) (TL2 F n t (m - 1) (sI (sA s 47 w.length (io 2)) 2515 (io (w.length + 1))) (i + 1)) (sI (sA s 47 w.length (io 2)) 2515 (io (w.length + 1))) (m - 1 + (i + 1)) (pQ t d 6 (i + 1)) := ih 6 (i + 1) (m - 1) _ (2 :: w) c a cm cl (by omega) i1 (by omega) (by show 4 * (n - (i + 1)) + 1 ≤ d; omega) KK (by show c.length + (w.length + 1) ≤ i + 1; omega) (by omega) (by omega) hcm (by omega) (Or.inl rfl)
        have h := h.pre fm
        rw [show m - 1 + (i + 1) = m + i by omega] at h
        rw [TL_step (st := 0) T (fm.mt K3 (by decide)) i1 hm e1 K2 (by omega) (by omega) (by omega)]
        unfold post
        cases hr : (pQ t d 6 (i + 1)).1 with
        | none =>
          obtain ⟨s', x1, x2⟩ := h.1 hr
          exact RQ.fail ⟨s', x1, x2⟩
        | some cc =>
          refine ⟨fun h => (by cases h), fun cq hcq => ?_⟩
          cases hcq
          obtain ⟨s', m', w', c', a', cm', x1, x2, x3, x4, x5, x6, x7, e, x8, x9, x10⟩ := h.2 cc hr
          refine ⟨s', m', w', c', a', cm', x1, x2, x3, x4, x5, x6, x7, e ++ [(2, 0)], MCs.app x8 (MCs.one (Or.inr (Or.inl ⟨rfl, rfl⟩))), ?_, ?_⟩
          · unfold flN at x9
            rw [if_pos rfl, List.append_assoc] at x9
            exact x9
          · unfold flN at x10
            rw [if_pos rfl, List.append_assoc] at x10
            exact x10
      · rw [if_neg h1]
        by_cases h2 : t i = 40
        · rw [if_pos h2]
          have i1 := T.in' h2
          rw [h2, if_neg (by decide)] at hfig
          have fm : FM EQ p s (sA (sI (sI (sA s 47 w.length (io 40)) 2515 (io (w.length + 1))) 2518 (io (cl.length + 1))) 49 (cl.length + 1) (io 0)) := (((FM.rf.A (by omega)).I (by decide)).I (by decide)).A (by omega)
          have e1 : f_M_reads_b31 F s (io (t i)) = some (io 1, sA (sI (sI (sA s 47 w.length (io 40)) 2515 (io (w.length + 1))) 2518 (io (cl.length + 1))) 49 (cl.length + 1) (io 0)) := by
            rw [h2]
            simp (disch := omega) only [f_M_reads_b31, f_M_goesToUnit, Option.bind_some, Nat.reduceEqDiff, Nat.add_zero, Nat.zero_add, Nat.reduceLT, Nat.reduceLeDiff, Nat.reduceAdd, Nat.reduceSub, Nat.reduceMul, Nat.reduceDiv, Nat.lt_irrefl, Nat.not_lt_zero, Nat.zero_le, Nat.one_ne_zero, Nat.succ_ne_zero,  lt_def, i32_lit, reduceIte, P_isIn_eq, M_isIn_eq, M_goes_eq, or_false, false_or, or_true, true_or, and_true, true_and, and_false, false_and, not_true, not_false_eq_true, eq_self, if_true, if_false, not_or, not_and, Nat.not_lt, Nat.not_le, K2, io_eq, hfig, e15, e18, ix_io, gI_sA, gI_sI, io_add]
          have KK : QQ t n p 0 (40 :: w) c a 0 (cm :: cl) (sA (sI (sI (sA s 47 w.length (io 40)) 2515 (io (w.length + 1))) 2518 (io (cl.length + 1))) 49 (cl.length + 1) (io 0)) := by
            obtain ⟨b1, b2, b3, b4, b5, b6, b7, b8, b9, b10⟩ := K1.push (x := 40)
            refine ⟨⟨b1, b2, b3, b4, b5, b6, b7, b8, rfl, ?_, stk_ext (cm :: cl) (fun i hi => ?_) b10⟩, K2, K3, fun x hx => ?_, f0, hf0, e11⟩
            · show gA _ 49 (cl.length + 1) = _
              simp only [gI_sI, gI_sA, gI_sL, gI_sJ, gI_sR, gI_sQ, gI_sD, gI_sN, gI_sz, gA_sI, gA_sA, gA_sL, gA_sJ, gA_sR, gA_sQ, gA_sD, gA_sN, gA_sz, gL_sI, gL_sA, gL_sL, gL_sJ, gL_sR, gL_sQ, gL_sD, gL_sN, gL_sz, gJ_sI, gJ_sA, gJ_sL, gJ_sJ, gJ_sR, gJ_sQ, gJ_sD, gJ_sN, gJ_sz, gR_sI, gR_sA, gR_sL, gR_sJ, gR_sR, gR_sQ, gR_sD, gR_sN, gR_sz, gQ_sI, gQ_sA, gQ_sL, gQ_sJ, gQ_sR, gQ_sQ, gQ_sD, gQ_sN, gQ_sz, gD_sI, gD_sA, gD_sL, gD_sJ, gD_sR, gD_sQ, gD_sD, gD_sN, gD_sz, sz_sI, sz_sA, sz_sL, sz_sJ, sz_sR, sz_sQ, sz_sD, sz_sN, sz_sz, reduceIte]
            · have hi' : i < cl.length + 1 := hi
              simp only [gI_sI, gI_sA, gI_sL, gI_sJ, gI_sR, gI_sQ, gI_sD, gI_sN, gI_sz, gA_sI, gA_sA, gA_sL, gA_sJ, gA_sR, gA_sQ, gA_sD, gA_sN, gA_sz, gL_sI, gL_sA, gL_sL, gL_sJ, gL_sR, gL_sQ, gL_sD, gL_sN, gL_sz, gJ_sI, gJ_sA, gJ_sL, gJ_sJ, gJ_sR, gJ_sQ, gJ_sD, gJ_sN, gJ_sz, gR_sI, gR_sA, gR_sL, gR_sJ, gR_sR, gR_sQ, gR_sD, gR_sN, gR_sz, gQ_sI, gQ_sA, gQ_sL, gQ_sJ, gQ_sR, gQ_sQ, gQ_sD, gQ_sN, gQ_sz, gD_sI, gD_sA, gD_sL, gD_sJ, gD_sR, gD_sQ, gD_sD, gD_sN, gD_sz, sz_sI, sz_sA, sz_sL, sz_sJ, sz_sR, sz_sQ, sz_sD, sz_sN, sz_sz, reduceIte, Nat.reduceEqDiff]
              rw [if_neg (by omega)]
            · rcases List.mem_cons.mp hx with h | h
              · rw [h]; omega
              · exact K4 x h
          have h : RQ F t n p (cm :: cl) (D0 t (40 :: w) c a) (TL2 F n t (m - 1) (sA (sI (sI (sA s 47 w.length (io 40)) 2515 (io (w.length + 1))) 2518 (io (cl.length + 1))) 49 (cl.length + 1) (io 0)) (i + 1)) (sA (sI (sI (sA s 47 w.length (io 40)) 2515 (io (w.length + 1))) 2518 (io (cl.length + 1))) 49 (cl.length + 1) (io 0)) (m - 1 + (i + 1)) (pQ t d 0 (i + 1)) := ih 0 (i + 1) (m - 1) _ (40 :: w) c a 0 (cm :: cl) (by omega) i1 (by omega) (by show 4 * (n - (i + 1)) + 4 ≤ d; omega) KK (by show c.length + (w.length + 1) ≤ i + 1; omega) (by omega) (by show cl.length + 1 ≤ i + 1; omega) (by omega) (fun _ => rfl) (Or.inr (fun x w' e => by cases e; exact ⟨by decide, by decide⟩))
          have h := h.pre fm
          rw [show m - 1 + (i + 1) = m + i by omega] at h
          rw [TL_step (st := 0) T (fm.mt K3 (by decide)) i1 hm e1 K2 (by omega) (by omega) (by omega)]
          obtain ⟨g1, g2, g3⟩ := pQ_gd T d 0 (i + 1) (by omega) i1
          unfold clo
          cases hr : (pQ t d 0 (i + 1)).1 with
          | none =>
            obtain ⟨s', x1, x2⟩ := h.1 hr
            exact RQ.fail ⟨s', x1, x2⟩
          | some cc =>
            obtain ⟨y1, y2, y3, y4, y5⟩ := g3 cc hr
            obtain ⟨s2, m2, w3, c3, a3, cm3, u1, u2, u3, u4, u5, u6, u7, e3, pd3, u8, u9, u10, u11⟩ := h.2 cc hr
            have el3 := u8.len
            have hlen := dlen u9 u10
            have hlen2 : c3.length + w3.length = c.length + (w.length + 1) + e3.length := hlen
            dsimp only
            by_cases h41 : t (pQ t d 0 (i + 1)).2 = 41
            · rw [if_pos h41]
              have j1 := T.in' h41
              obtain ⟨Q1, Q2, Q3, Q4, f1, hf1, q11⟩ := u4
              obtain ⟨s3, b1, b2, b4⟩ := putsW_eq (F := F) (r := 1) (by omega) w3 F s2 c3 Q1 Q4 (by omega) (by omega)
              rw [u9, flR_all pd3 (40 :: w) c3 u11 (fun x w' e => by cases e; decide), u10] at b2
              have b1' : f_M_putsWaiting F s2 (io 1) = some s3 := b1
              have P : MB (sI (sI s3 2515 (io w.length)) 2518 (io cl.length)) p w (c ++ e3) a3 cm cl := by
                obtain ⟨p1, p2, p3, p4, p5, p6, p7, p8, p9, p10⟩ := b2.pop
                exact ⟨p1, p2, p3, p4, p5, p6, p7, p8, rfl, p10.2⟩
              obtain ⟨s4, d1, d2, d3, d4⟩ := endsUnit_eq (F := F) w F _ _ P K4 (by omega) (by rw [List.length_append]; omega)
              have d1' : f_M_endsUnit F (sI (sI s3 2515 (io w.length)) 2518 (io cl.length)) = some s4 := d1
              have fm2 : FM EQ p s2 s4 := (((b4.wide (by decide)).I (by decide)).I (by decide)).trans (d4.wide (by decide))
              refine ⟨fun h => (by cases h), fun cq hcq => ?_⟩
              cases hcq
              refine ⟨s4, m2 - 1, _, _, a3, cm, ?_, by show m2 - 1 + ((pQ t d 0 (i + 1)).2 + 1) = m + i; omega, u3.trans fm2, ⟨d2, d3, fm2.mt Q3 (by decide), (flN_len w _).2 K4, f1, hf1, ?_⟩, by show a3.length ≤ (pQ t d 0 (i + 1)).2 + 1; omega, rfl, u7, e3, u8, rfl, rfl⟩
              · rw [u1]
                refine TL_step (st := 2) T (fm2.mt Q3 (by decide)) j1 (by omega) ?_ d3 (by omega) (by omega) (by omega)
                have k18 : gI s2 2518 = io (cl.length + 1) := Q1.2.2.2.2.2.2.2.2.1
                have l18 : gI s3 2518 = io (cl.length + 1) := b2.2.2.2.2.2.2.2.2.1
                have l15 : gI s3 2515 = io (w.length + 1) := b2.2.2.2.2.2.2.1
                have hra := rank_eq (F := F) (s := s2) (show 41 < 1000 by omega)
                rw [show rkM 41 = 0 from rfl] at hra
                have nc : ¬ cl.length + 1 = 0 := by omega
                rw [h41]
                simp (disch := omega) only [f_M_reads_b31, f_M_goesBehind, f_M_goesBehind_b41, Option.bind_some, Nat.reduceEqDiff, Nat.add_zero, Nat.zero_add, Nat.reduceLT, Nat.reduceLeDiff, Nat.reduceAdd, Nat.reduceSub, Nat.reduceMul, Nat.reduceDiv, Nat.lt_irrefl, Nat.not_lt_zero, Nat.zero_le, Nat.one_ne_zero, Nat.succ_ne_zero,  lt_def, i32_lit, reduceIte, P_isIn_eq, M_isIn_eq, M_goes_eq, or_false, false_or, or_true, true_or, and_true, true_and, and_false, false_and, not_true, not_false_eq_true, eq_self, if_true, if_false, not_or, not_and, Nat.not_lt, Nat.not_le, Q2, io_eq, io_le, hra, k18, nc, b1', l15, l18, gI_sI, io_sub, Nat.add_sub_cancel, d1']
              · rw [d4.1.gi 2511 (by decide)]
                show gI s3 2511 = _
                rw [b4.1.gi 2511 (by decide)]; exact q11
            · rw [if_neg h41]
              have hcl40 : (cm :: cl).length ≤ 40 := by show cl.length + 1 ≤ 40; omega
              obtain ⟨s', q1, q2⟩ := behind_fail (F := F) (m := m2) T g2 u4 hcl40 (y4 (by omega)) (y5 (by omega)) u6 (Or.inl h41) (fun _ => by show cl.length + 1 ≠ 0; omega)
              exact RQ.fail ⟨s', by rw [u1, q1], u3.trans q2⟩
        · rw [if_neg h2]
          by_cases h3 : agc (t i) = true
          · rw [if_pos h3]
            have i1 := T.bin h3
            have hnd : ¬ dgt (t i) = true := fun hd => by
              unfold dgt at hd; unfold agc at h3
              have e1 := of_decide_eq_true hd
              have e2 := of_decide_eq_true h3
              omega
            exact agg_Q hF T hm (by omega) K hz ha h3 hnd
          · rw [if_neg h3]
            unfold pNum
            by_cases hd : dgt (t i) = true
            · rw [if_pos hd] at hfig ⊢
              have i1 := T.bin hd
              have h48 : 48 ≤ t i := by unfold dgt at hd; exact (of_decide_eq_true hd).1
              have fm : FM EQ p s (sI (sI (sI s 2507 (io (t i - 48))) 2506 (io 1)) 2505 (io 1)) := ((FM.rf.I (by decide)).I (by decide)).I (by decide)
              have e1 : f_M_reads_b31 F s (io (t i)) = some (io 1, sI (sI (sI s 2507 (io (t i - 48))) 2506 (io 1)) 2505 (io 1)) := by
                simp (disch := omega) only [f_M_reads_b31, f_M_goesToUnit, Option.bind_some, Nat.reduceEqDiff, Nat.add_zero, Nat.zero_add, Nat.reduceLT, Nat.reduceLeDiff, Nat.reduceAdd, Nat.reduceSub, Nat.reduceMul, Nat.reduceDiv, Nat.lt_irrefl, Nat.not_lt_zero, Nat.zero_le, Nat.one_ne_zero, Nat.succ_ne_zero,  lt_def, i32_lit, reduceIte, P_isIn_eq, M_isIn_eq, M_goes_eq, or_false, false_or, or_true, true_or, and_true, true_and, and_false, false_and, not_true, not_false_eq_true, eq_self, if_true, if_false, not_or, not_and, Nat.not_lt, Nat.not_le, K2, io_eq, hfig, io_sub]
              have en : nb t 4 0 i = nb t 3 (t i - 48) (i + 1) := by
                show (if dgt (t i) = true then nb t 3 (10 * 0 + (t i - 48)) (i + 1) else (0, i)) = _
                rw [if_pos hd]; congr 1; omega
              have h := (num_Q (F := F) (a := a) (cm := cm) (cl := cl) hF T (show c.length + w.length ≤ 62 by omega) 3 1 (t i - 48) (i + 1) (m - 1) (sI (sI (sI s 2507 (io (t i - 48))) 2506 (io 1)) 2505 (io 1)) (by omega) i1 (by omega) (by omega) ⟨((K1.I).I).I, rfl, K3, K4, f0, hf0, e11⟩ rfl rfl).pre fm
              rw [show m - 1 + (i + 1) = m + i by omega] at h
              rw [TL_stepN i1 e1]
              unfold numE
              dsimp only
              rw [en]
              exact h
            · rw [if_neg hd] at hfig ⊢
              have hko := kindM_eq (F := F) (s := s) ht
              rw [if_neg h3] at hko
              refine RQ.fail (TL_fail (st := 0) K3 hi K2 (by omega) (by omega) (fun _ => ⟨sI (sI (sI s 2509 (-io 1)) 2510 (io 0)) 2505 (io 0), ?_, ((FM.rf.I (by decide)).I (by decide)).I (by decide)⟩))
              simp (disch := omega) only [f_M_reads_b31, f_M_goesToUnit, Option.bind_some, Nat.reduceEqDiff, Nat.add_zero, Nat.zero_add, Nat.reduceLT, Nat.reduceLeDiff, Nat.reduceAdd, Nat.reduceSub, Nat.reduceMul, Nat.reduceDiv, Nat.lt_irrefl, Nat.not_lt_zero, Nat.zero_le, Nat.one_ne_zero, Nat.succ_ne_zero,  lt_def, i32_lit, reduceIte, P_isIn_eq, M_isIn_eq, M_goes_eq, or_false, false_or, or_true, true_or, and_true, true_and, and_false, false_and, not_true, not_false_eq_true, eq_self, if_true, if_false, not_or, not_and, Nat.not_lt, Nat.not_le, K2, io_eq, hfig, h1, h2, hko, gI_sI]
/-- a slot's program -/
def PG (s : St) (p : Nat) (q : List QT) : Prop := ∃ e a : List PR, gA s 43 p = io e.length ∧ row s 41 42 (64 * p) e ∧ row s 44 45 (64 * p) a ∧ a.length ≤ 40 ∧ MCs a q e
def ET : List Nat := 2504 :: EQ
theorem turns_eq (hF : 5000 ≤ F) (T : TXT t n) {s : St} (hp : p ≤ 4) (M : MT t n s) (hf : ∃ f0, f0 < 128 ∧ gI s 2511 = io f0) : ∃ r s', f_M_turns F s (io p) = some (r, s') ∧ FM ET p s s' ∧ (∃ f0, f0 < 128 ∧ gI s' 2511 = io f0) ∧ (ques t n = none → r = io (perr t)) ∧ ∀ c, ques t n = some c → r = -io 1 ∧ PG s' p c := by
  have hn := T.1
  obtain ⟨f0, hf0, e11⟩ := hf
  have fm : FM ET p s (sI (sA (sI (sI (sA (sA (sI s 2504 (io p)) 43 p (io 0)) 46 p (io 0)) 2515 (io 0)) 2518 (io 0)) 49 0 (io 0)) 2505 (io 0)) := ((((((FM.rf.I (by decide)).K (by omega)).K (by omega)).I (by decide)).I (by decide)).A (by omega)).I (by decide)
  have K : QQ t n p 0 [] [] [] 0 [] (sI (sA (sI (sI (sA (sA (sI s 2504 (io p)) 43 p (io 0)) 46 p (io 0)) 2515 (io 0)) 2518 (io 0)) 49 0 (io 0)) 2505 (io 0)) := by
    refine ⟨⟨hp, rfl, ?_, fun i h => absurd h (Nat.not_lt_zero _), ?_, fun i h => absurd h (Nat.not_lt_zero _), rfl, trivial, rfl, ?_, trivial⟩, rfl, fm.mt M (by decide), fun x hx => (List.not_mem_nil hx).elim, f0, hf0, e11⟩
    · simp only [gI_sI, gI_sA, gI_sL, gI_sJ, gI_sR, gI_sQ, gI_sD, gI_sN, gI_sz, gA_sI, gA_sA, gA_sL, gA_sJ, gA_sR, gA_sQ, gA_sD, gA_sN, gA_sz, gL_sI, gL_sA, gL_sL, gL_sJ, gL_sR, gL_sQ, gL_sD, gL_sN, gL_sz, gJ_sI, gJ_sA, gJ_sL, gJ_sJ, gJ_sR, gJ_sQ, gJ_sD, gJ_sN, gJ_sz, gR_sI, gR_sA, gR_sL, gR_sJ, gR_sR, gR_sQ, gR_sD, gR_sN, gR_sz, gQ_sI, gQ_sA, gQ_sL, gQ_sJ, gQ_sR, gQ_sQ, gQ_sD, gQ_sN, gQ_sz, gD_sI, gD_sA, gD_sL, gD_sJ, gD_sR, gD_sQ, gD_sD, gD_sN, gD_sz, sz_sI, sz_sA, sz_sL, sz_sJ, sz_sR, sz_sQ, sz_sD, sz_sN, sz_sz, reduceIte, Nat.reduceEqDiff]; rfl
    · simp only [gI_sI, gI_sA, gI_sL, gI_sJ, gI_sR, gI_sQ, gI_sD, gI_sN, gI_sz, gA_sI, gA_sA, gA_sL, gA_sJ, gA_sR, gA_sQ, gA_sD, gA_sN, gA_sz, gL_sI, gL_sA, gL_sL, gL_sJ, gL_sR, gL_sQ, gL_sD, gL_sN, gL_sz, gJ_sI, gJ_sA, gJ_sL, gJ_sJ, gJ_sR, gJ_sQ, gJ_sD, gJ_sN, gJ_sz, gR_sI, gR_sA, gR_sL, gR_sJ, gR_sR, gR_sQ, gR_sD, gR_sN, gR_sz, gQ_sI, gQ_sA, gQ_sL, gQ_sJ, gQ_sR, gQ_sQ, gQ_sD, gQ_sN, gQ_sz, gD_sI, gD_sA, gD_sL, gD_sJ, gD_sR, gD_sQ, gD_sD, gD_sN, gD_sz, sz_sI, sz_sA, sz_sL, sz_sJ, sz_sR, sz_sQ, sz_sD, sz_sN, sz_sz, reduceIte, Nat.reduceEqDiff]; rfl
    · simp only [gI_sI, gI_sA, gI_sL, gI_sJ, gI_sR, gI_sQ, gI_sD, gI_sN, gI_sz, gA_sI, gA_sA, gA_sL, gA_sJ, gA_sR, gA_sQ, gA_sD, gA_sN, gA_sz, gL_sI, gL_sA, gL_sL, gL_sJ, gL_sR, gL_sQ, gL_sD, gL_sN, gL_sz, gJ_sI, gJ_sA, gJ_sL, gJ_sJ, gJ_sR, gJ_sQ, gJ_sD, gJ_sN, gJ_sz, gR_sI, gR_sA, gR_sL, gR_sJ, gR_sR, gR_sQ, gR_sD, gR_sN, gR_sz, gQ_sI, gQ_sA, gQ_sL, gQ_sJ, gQ_sR, gQ_sQ, gQ_sD, gQ_sN, gQ_sz, gD_sI, gD_sA, gD_sL, gD_sJ, gD_sR, gD_sQ, gD_sD, gD_sN, gD_sz, sz_sI, sz_sA, sz_sL, sz_sJ, sz_sR, sz_sQ, sz_sD, sz_sN, sz_sz, reduceIte, Nat.reduceEqDiff]; rfl
  have h : RQ F t n p [] (D0 t [] [] []) (TL2 F n t F _ 0) _ (F + 0) (pQ t 200 0 0) := MQQ hF T 200 0 0 F _ [] [] [] 0 [] (by omega) (by omega) (by omega) (by show 4 * (n - 0) + 4 ≤ 200; omega) K (Nat.le_refl _) (Nat.le_refl _) (Nat.le_refl _) (by omega) (fun _ => rfl) (Or.inr (fun x w' e => by cases e))
  have e0 : f_M_turns F s (io p) = TL2 F n t F (sI (sA (sI (sI (sA (sA (sI s 2504 (io p)) 43 p (io 0)) 46 p (io 0)) 2515 (io 0)) 2518 (io 0)) 49 0 (io 0)) 2505 (io 0)) 0 := by
    rw [← TL_2 (st := 0) T (fm.mt M (by decide)) (by omega) (by omega) rfl (by omega) (by omega) (by omega)]
    simp (disch := omega) only [f_M_turns, Option.bind_some, Nat.reduceEqDiff, Nat.add_zero, Nat.zero_add, Nat.reduceLT, Nat.reduceLeDiff, Nat.reduceAdd, Nat.reduceSub, Nat.reduceMul, Nat.reduceDiv, Nat.lt_irrefl, Nat.not_lt_zero, Nat.zero_le, Nat.one_ne_zero, Nat.succ_ne_zero,  lt_def, i32_lit, reduceIte, P_isIn_eq, M_isIn_eq, M_goes_eq, or_false, false_or, or_true, true_or, and_true, true_and, and_false, false_and, not_true, not_false_eq_true, eq_self, if_true, if_false, not_or, not_and, Nat.not_lt, Nat.not_le, gI_sI, gI_sA, ix_io]
  rw [e0]
  have g := pQ_gd T 200 0 0 (Or.inl rfl) (Nat.zero_le _)
  have pe := perr_le T
  have fw : ∀ {s1 s2 : St}, FM EQ p s1 s2 → FM ET p s1 s2 := fun f => f.wide (fun k hk => List.mem_cons_of_mem _ hk)
  have hf' : ∃ f0, f0 < 128 ∧ gI (sI (sA (sI (sI (sA (sA (sI s 2504 (io p)) 43 p (io 0)) 46 p (io 0)) 2515 (io 0)) 2518 (io 0)) 49 0 (io 0)) 2505 (io 0)) 2511 = io f0 := ⟨f0, hf0, e11⟩
  generalize sI (sA (sI (sI (sA (sA (sI s 2504 (io p)) 43 p (io 0)) 46 p (io 0)) 2515 (io 0)) 2518 (io 0)) 49 0 (io 0)) 2505 (io 0) = s0 at fm K h hf'
  cases hr : (pQ t 200 0 0).1 with
  | none =>
    obtain ⟨s', x1, x2⟩ := h.1 hr
    refine ⟨_, s', x1, fm.trans (fw x2), x2.f11 hf', fun _ => rfl, fun c hc => ?_⟩
    unfold ques at hc
    rw [hr, ite_self] at hc
    cases hc
  | some c =>
    obtain ⟨s', m', w', c', a', cm', u1, u2, u3, u4, u5, u6, u7, e, pd, u8, u9, u10, u11⟩ := h.2 c hr
    have u1' : TL2 F n t F s0 0 = TL2 F n t m' s' (perr t) := u1
    have g3 := g.2.2 c hr
    have el := u8.len
    have hlen := dlen u9 u10
    have hlen2 : c'.length + w'.length = 0 + 0 + e.length := hlen
    by_cases hpn : n ≤ perr t
    · have hpe : perr t = n := by omega
      obtain ⟨Q1, Q2, Q3, Q4, f1, hf1, q11⟩ := u4
      have hpe' : (pQ t 200 0 0).2 = n := hpe
      obtain ⟨s2, b1, b2, b4⟩ := putsW_eq (F := F) (r := 1) (by omega) w' F s' c' Q1 Q4 (by omega) (by omega)
      rw [u9, flR_all pd [] c' u11 (fun x w' e => by cases e), u10] at b2
      have b1' : f_M_putsWaiting F s' (io 1) = some s2 := b1
      have b2' : MB s2 p [] e a' cm' [] := b2
      refine ⟨-io 1, s2, ?_, fm.trans (fw (u3.trans (b4.wide (by decide)))), (u3.trans (b4.wide (by decide))).f11 hf', fun hq => ?_, fun c2 hc2 => ⟨rfl, ?_⟩⟩
      · rw [u1', hpe]
        unfold TL2
        rw [if_pos (Nat.le_refl _)]
        have e18 : gI s' 2518 = io 0 := Q1.2.2.2.2.2.2.2.2.1
        simp (disch := omega) only [f_M_turns_b90, Option.bind_some, Nat.reduceEqDiff, Nat.add_zero, Nat.zero_add, Nat.reduceLT, Nat.reduceLeDiff, Nat.reduceAdd, Nat.reduceSub, Nat.reduceMul, Nat.reduceDiv, Nat.lt_irrefl, Nat.not_lt_zero, Nat.zero_le, Nat.one_ne_zero, Nat.succ_ne_zero,  lt_def, i32_lit, reduceIte, P_isIn_eq, M_isIn_eq, M_goes_eq, or_false, false_or, or_true, true_or, and_true, true_and, and_false, false_and, not_true, not_false_eq_true, eq_self, if_true, if_false, not_or, not_and, Nat.not_lt, Nat.not_le, Q2, io_le, e18, Nat.le_refl, b1']
      · unfold ques at hq
        rw [if_pos hpn, hr] at hq
        cases hq
      · unfold ques at hc2
        rw [if_pos hpn, hr] at hc2
        cases hc2
        exact ⟨e, a', b2'.2.2.1, b2'.2.2.2.1, b2'.2.2.2.2.2.1, by omega, u8⟩
    · obtain ⟨s2, q1, q2⟩ := behind_fail (F := F) (m := m') T pe u4 (Nat.zero_le _) (g3.2.2.2.1 (by omega)) (g3.2.2.2.2 (by omega)) u6 (Or.inr rfl) (fun h => absurd h (by omega))
      refine ⟨io (perr t), s2, by rw [u1', q1], fm.trans (fw (u3.trans q2)), (u3.trans q2).f11 hf', fun _ => rfl, fun c2 hc2 => ?_⟩
      unfold ques at hc2
      rw [if_neg hpn] at hc2
      cases hc2
end MQT
