/-! a late question; a rule dropped, silenced; an alarm answered -/
theorem op_wouldRise {F R n h m c w : Nat} (hF : 5000 ≤ F) {s : St} {u : Nat → RU} {L : Nat → LR} (H : HH s h) (hn : n ≤ 8) (A : AL s h n R c w) (C : RUc s u R) (G : RUg u R h n) (LC : LGc s L m) (LM : LGm s L m) (LG : LGg L m h) (S : RST s u R) (x : Int32) :
    ∃ k s1, f_L_wouldRise F s x = some (k, s1) ∧ ∀ N, sz s1 ≤ N → ∃ b s2, f_M_wouldRise F (sz' s1 N) x = some (b, s2) ∧ gI s2 2551 = k ∧ (k = 0 → gJ s2 70 0 = if b = 0 then 0 else 1) ∧ FX EI9 EA9 s s2 ∧ RST s2 u R := by
  have hz := szlt s
  have hh := H.1
  have hR := G.1
  have hc := A.1
  by_cases hx : ∃ i, i < c ∧ x = io i
  · obtain ⟨i, hi, rfl⟩ := hx
    obtain ⟨q, t, p, u', a, h1, h2, h3, h4, hp, hu, h5, h6, h7, h8, -, -⟩ := M_woken_eq (F := F) hh hn A hi
    have hq4 : q < 4 := by omega
    have hlt := enc_lt hq4 (show t ≤ 1000 by omega) hp hu h4
    have heq := enc_q (t := t) (p := p) (u := u') (a := a) hq4
    have het := enc_t (p := p) (u := u') (a := a) hq4 (show t ≤ 1000 by omega)
    obtain ⟨g1, g2, g3, g4, g5, -⟩ := G.2.1 q h1
    obtain ⟨s1, e1, e2, e3⟩ := pickW_eq (F := F) (th := t) (tb := h) hF LC LG hh (C.2 q h1).2 ⟨g4, g5⟩ (by omega) hh
    obtain ⟨o, nq, d1, -, -, -, -, -, -, -, -, d2, -, -, d3, -⟩ := ((C.2 q h1).2.de e3.de).dg
    obtain ⟨S1, ⟨v1, S2⟩, ⟨v2, S3⟩, f0, hf0, hf1⟩ := S
    obtain ⟨s2, w1, w2, w3⟩ := walk_eq (F := F) hF (Nat.le_refl 40) d3 e2 ⟨v1, TLw.fr S2 e3⟩
    have hne : ¬ some (uq (u q)) = none := by simp
    have f2 : FX EI9 EA9 s s2 := (Fr.fx (e3.wide (by decide) (by decide))).trans (Fr.fx (w2.1.wide (by decide) (by decide)))
    have S1' : RUm s2 u R := RUm.fr (RUm.fr S1 e3) w2.1
    have S3' : TLr s2 v2 := TLr.fr (TLr.fr S3 e3) w2.1
    generalize hv : valQ (ev L (pks L m (t + 1 - uw (u q)) t h)) (uc (u q)) = v at w1
    -- the model, whatever is written
    have key : ∀ (y : Int64) N, sz (sJ s2 70 0 y) ≤ N → ∃ s3, f_M_wouldRise F (sz' (sJ s2 70 0 y) N) (io i) = some (if v = 0 then io 0 else io 1, s3) ∧ gI s3 2551 = io 0 ∧ gJ s3 70 0 = y ∧ FX EI9 EA9 s s3 ∧ RST s3 u R := by
      intro y N hN
      have fz : Fr [] [] s2 (sz' (sJ s2 70 0 y) N) := (Fr.rf.J).Z hN
      have fz1 : Fr [2551] [] s2 (sI (sz' (sJ s2 70 0 y) N) 2551 (io 0)) := ((Fr.rf.J).Z hN).I (by decide)
      have f3 : FX EI9 EA9 s (sz' (sJ s2 70 0 y) N) := f2.trans (Fr.fx (fz.wide (by decide) (by decide)))
      have f4 : FX EI9 EA9 s (sI (sz' (sJ s2 70 0 y) N) 2551 (io 0)) := f2.trans (Fr.fx (fz1.wide (by decide) (by decide)))
      have RM := RUm.fr S1' fz1
      have e60 := (RM.2.1 q h1).2.1
      have hPG := (RM.2.1 q h1).2.2.2.2.2.2.2.2
      obtain ⟨s3, r1, r2, r3⟩ := runs_eq (F := F) (p := q) (a0 := t + 1 - uw (u q)) (b := t) (t := h) (x0 := io t - io (uw (u q)) + io 1) hF (LM.fx f4) LG hh (by omega) (by omega) (Nat.le_refl _) (win_lt (by omega) g5) hPG g1 g2
      rw [hv] at r1
      refine ⟨s3, ?_, by rw [r2.gi 2551 (by decide)]; rfl, ?_, f4.trans (Fr.fx (r2.wide (by decide) (by decide))), RUm.fr RM r2, ⟨_, TLw.fr (TLw.fr w3.choose_spec fz1) r2⟩, ⟨_, TLr.fr (TLr.fr S3' fz1) r2⟩, f0, hf0, ?_⟩
      · have e68 : gA s2 68 i = io (enc q t p u' a) := by rw [w2.1.ga 68 (by decide), e3.ga 68 (by decide)]; exact h8
        have e60' : gA s2 60 q = io (uw (u q)) := e60
        have hal := M_alarm_t (F := F) (A.fx f3) hi
        by_cases hv0 : v = 0
        · rw [hv0] at r1
          simp (disch := omega) only [f_M_wouldRise, f_M_wouldRise_b14, Option.bind_some, Nat.reduceEqDiff, Nat.add_zero, Nat.zero_add, Nat.reduceLT, Nat.reduceLeDiff, Nat.reduceAdd, Nat.reduceSub, Nat.reduceMul, Nat.reduceDiv, Nat.lt_irrefl, Nat.not_lt_zero, Nat.zero_le, Nat.one_ne_zero, Nat.succ_ne_zero,  lt_def, i32_lit, reduceIte, P_isIn_eq, M_isIn_eq, M_goes_eq, or_false, false_or, or_true, true_or, and_true, true_and, and_false, false_and, not_true, not_false_eq_true, eq_self, if_true, if_false, not_or, not_and, Nat.not_lt, Nat.not_le, hal, io_eq, ix_io, gI_sI, gI_sA, gI_sL, gI_sJ, gI_sR, gI_sQ, gI_sD, gI_sN, gI_sz, gA_sI, gA_sA, gA_sL, gA_sJ, gA_sR, gA_sQ, gA_sD, gA_sN, gA_sz, gL_sI, gL_sA, gL_sL, gL_sJ, gL_sR, gL_sQ, gL_sD, gL_sN, gL_sz, gJ_sI, gJ_sA, gJ_sL, gJ_sJ, gJ_sR, gJ_sQ, gJ_sD, gJ_sN, gJ_sz, gR_sI, gR_sA, gR_sL, gR_sJ, gR_sR, gR_sQ, gR_sD, gR_sN, gR_sz, gQ_sI, gQ_sA, gQ_sL, gQ_sJ, gQ_sR, gQ_sQ, gQ_sD, gQ_sN, gQ_sz, gD_sI, gD_sA, gD_sL, gD_sJ, gD_sR, gD_sQ, gD_sD, gD_sN, gD_sz, sz_sI, sz_sA, sz_sL, sz_sJ, sz_sR, sz_sQ, sz_sD, sz_sN, sz_sz, e68, io_and, io_shr, and31, and3, and15, and1023, shr2, shr12, shr16, shr26, heq, het, e60', r1, hv0]
        · simp (disch := omega) only [f_M_wouldRise, f_M_wouldRise_b14, Option.bind_some, Nat.reduceEqDiff, Nat.add_zero, Nat.zero_add, Nat.reduceLT, Nat.reduceLeDiff, Nat.reduceAdd, Nat.reduceSub, Nat.reduceMul, Nat.reduceDiv, Nat.lt_irrefl, Nat.not_lt_zero, Nat.zero_le, Nat.one_ne_zero, Nat.succ_ne_zero,  lt_def, i32_lit, reduceIte, P_isIn_eq, M_isIn_eq, M_goes_eq, or_false, false_or, or_true, true_or, and_true, true_and, and_false, false_and, not_true, not_false_eq_true, eq_self, if_true, if_false, not_or, not_and, Nat.not_lt, Nat.not_le, hal, io_eq, ix_io, gI_sI, gI_sA, gI_sL, gI_sJ, gI_sR, gI_sQ, gI_sD, gI_sN, gI_sz, gA_sI, gA_sA, gA_sL, gA_sJ, gA_sR, gA_sQ, gA_sD, gA_sN, gA_sz, gL_sI, gL_sA, gL_sL, gL_sJ, gL_sR, gL_sQ, gL_sD, gL_sN, gL_sz, gJ_sI, gJ_sA, gJ_sL, gJ_sJ, gJ_sR, gJ_sQ, gJ_sD, gJ_sN, gJ_sz, gR_sI, gR_sA, gR_sL, gR_sJ, gR_sR, gR_sQ, gR_sD, gR_sN, gR_sz, gQ_sI, gQ_sA, gQ_sL, gQ_sJ, gQ_sR, gQ_sQ, gQ_sD, gQ_sN, gQ_sz, gD_sI, gD_sA, gD_sL, gD_sJ, gD_sR, gD_sQ, gD_sD, gD_sN, gD_sz, sz_sI, sz_sA, sz_sL, sz_sJ, sz_sR, sz_sQ, sz_sD, sz_sN, sz_sz, e68, io_and, io_shr, and31, and3, and15, and1023, shr2, shr12, shr16, shr26, heq, het, e60', r1, hv0]
      · rw [r3 70 (by decide)]
        show gJ (sJ s2 70 0 y) 70 0 = y
        rw [gJ_sJ, if_pos rfl, if_pos rfl]
      · rw [r2.gi 2511 (by decide)]
        show gI s2 2511 = _
        rw [w2.1.gi 2511 (by decide), e3.gi 2511 (by decide)]; exact hf1
    by_cases hv0 : v = 0
    · refine ⟨io 0, sJ s2 70 0 0, ?_, fun N hN => ?_⟩
      · simp (disch := omega) only [f_L_wouldRise, f_P_wouldRise, Option.bind_some, Nat.reduceEqDiff, Nat.add_zero, Nat.zero_add, Nat.reduceLT, Nat.reduceLeDiff, Nat.reduceAdd, Nat.reduceSub, Nat.reduceMul, Nat.reduceDiv, Nat.lt_irrefl, Nat.not_lt_zero, Nat.zero_le, Nat.one_ne_zero, Nat.succ_ne_zero,  lt_def, i32_lit, reduceIte, P_isIn_eq, M_isIn_eq, M_goes_eq, or_false, false_or, or_true, true_or, and_true, true_and, and_false, false_and, not_true, not_false_eq_true, eq_self, if_true, if_false, not_or, not_and, Nat.not_lt, Nat.not_le, P_has_t A hi, io_eq, ix_io, h5, ruleAt_t C hR h1, hne, h6, H.2.1, e1, d1, d2, w1, hv0]
      · obtain ⟨s3, k1, k2, k3, k4, k5⟩ := key 0 N hN
        rw [if_pos hv0] at k1
        exact ⟨io 0, s3, k1, k2, fun _ => k3.trans (if_pos (show io 0 = 0 from rfl)).symm, k4, k5⟩
    · refine ⟨io 0, sJ s2 70 0 1, ?_, fun N hN => ?_⟩
      · simp (disch := omega) only [f_L_wouldRise, f_P_wouldRise, Option.bind_some, Nat.reduceEqDiff, Nat.add_zero, Nat.zero_add, Nat.reduceLT, Nat.reduceLeDiff, Nat.reduceAdd, Nat.reduceSub, Nat.reduceMul, Nat.reduceDiv, Nat.lt_irrefl, Nat.not_lt_zero, Nat.zero_le, Nat.one_ne_zero, Nat.succ_ne_zero,  lt_def, i32_lit, reduceIte, P_isIn_eq, M_isIn_eq, M_goes_eq, or_false, false_or, or_true, true_or, and_true, true_and, and_false, false_and, not_true, not_false_eq_true, eq_self, if_true, if_false, not_or, not_and, Nat.not_lt, Nat.not_le, P_has_t A hi, io_eq, ix_io, h5, ruleAt_t C hR h1, hne, h6, H.2.1, e1, d1, d2, w1, hv0]
      · obtain ⟨s3, k1, k2, k3, k4, k5⟩ := key 1 N hN
        rw [if_neg hv0] at k1
        exact ⟨io 1, s3, k1, k2, fun _ => by rw [k3, if_neg (by decide)], k4, k5⟩
  · refine ⟨io 1, s, ?_, fun N hN => ⟨io 0, sI (sz' s N) 2551 (io 1), ?_, rfl, fun h => absurd h (by decide), Fr.fx ((Fr.rf.Z hN).I (by decide)), S.fx (eI := [2551]) (eA := []) (Fr.fx ((Fr.rf.Z hN).I (by decide)))⟩⟩
    · simp (disch := omega) only [f_L_wouldRise, f_P_wouldRise, Option.bind_some, Nat.reduceEqDiff, Nat.add_zero, Nat.zero_add, Nat.reduceLT, Nat.reduceLeDiff, Nat.reduceAdd, Nat.reduceSub, Nat.reduceMul, Nat.reduceDiv, Nat.lt_irrefl, Nat.not_lt_zero, Nat.zero_le, Nat.one_ne_zero, Nat.succ_ne_zero,  lt_def, i32_lit, reduceIte, P_isIn_eq, M_isIn_eq, M_goes_eq, or_false, false_or, or_true, true_or, and_true, true_and, and_false, false_and, not_true, not_false_eq_true, eq_self, if_true, if_false, not_or, not_and, Nat.not_lt, Nat.not_le, P_has_f A hx, hz]
    · have f0 : Fr [] [] s (sz' s N) := Fr.rf.Z hN
      simp (disch := omega) only [f_M_wouldRise, f_M_wouldRise_b14, Option.bind_some, Nat.reduceEqDiff, Nat.add_zero, Nat.zero_add, Nat.reduceLT, Nat.reduceLeDiff, Nat.reduceAdd, Nat.reduceSub, Nat.reduceMul, Nat.reduceDiv, Nat.lt_irrefl, Nat.not_lt_zero, Nat.zero_le, Nat.one_ne_zero, Nat.succ_ne_zero,  lt_def, i32_lit, reduceIte, P_isIn_eq, M_isIn_eq, M_goes_eq, or_false, false_or, or_true, true_or, and_true, true_and, and_false, false_and, not_true, not_false_eq_true, eq_self, if_true, if_false, not_or, not_and, Nat.not_lt, Nat.not_le, M_alarm_f (A.fr f0) hx, io_eq]
/-! one rule's cells change -/
theorem RUc.upd {s s' : St} {u : Nat → RU} {R h n r : Nat} {x : RU} (C : RUc s u R) (G : RUg u R h n) (hr : r < R) (hx : uq x = uq (u r)) (h1 : ∀ q, (q < uq x ∨ uq x + 3 ≤ q) → q < sz s → gD s' q = gD s q) (h2 : NM s s') (h3 : gI s' 4 = gI s 4) (h4 : gQ s' = gQ s) (h5 : RC1 s' x) : RUc s' (ups u r x) R := by
  refine ⟨h3.trans C.1, fun k hk => ?_⟩
  unfold ups
  by_cases e : k = r
  · rw [if_pos e]
    refine ⟨?_, h5⟩
    rw [h4, hx, e]; exact (C.2 r hr).1
  · rw [if_neg e]
    refine ⟨by rw [h4]; exact (C.2 k hk).1, ?_⟩
    obtain ⟨a1, o, g6, g7, nq, a2, a3, a4, a5, a6, a7, a8, a9, a10, a11, a12, a13, a14, a15, a16, a17⟩ := (C.2 k hk).2
    have hd : uq (u k) + 3 ≤ uq x ∨ uq x + 3 ≤ uq (u k) := by
      rw [hx]
      rcases Nat.lt_or_ge k r with h9 | h9
      · exact Or.inl (G.2.2 k r h9 hr)
      · exact Or.inr (G.2.2 r k (by omega) hk)
    exact ⟨Nat.lt_of_lt_of_le a1 h2.1, o, g6, g7, nq, by rw [h1 _ (by omega) (by omega)]; exact a2, by rw [h1 _ (by omega) (by omega)]; exact a3, by rw [h1 _ (by omega) a1]; exact a4, a5, a6, a7, a8, a9, a10, a11, a12, a13, a14, a15, TQ.nm h2 _ _ _ a16, a17⟩
theorem RUg.upd {u : Nat → RU} {R h n r : Nat} {x : RU} (G : RUg u R h n) (hr : r < R) (hx : uq x = uq (u r)) (h1 : RG1 h n x) : RUg (ups u r x) R h n := by
  refine ⟨G.1, fun k hk => ?_, fun k k' h2 h3 => ?_⟩
  · unfold ups
    by_cases e : k = r
    · rw [if_pos e]; exact h1
    · rw [if_neg e]; exact G.2.1 k hk
  · have h9 : ∀ k, uq (ups u r x k) = uq (u k) := fun k => by
      unfold ups
      by_cases e : k = r
      · rw [if_pos e, hx, e]
      · rw [if_neg e]
    rw [h9, h9]; exact G.2.2 k k' h2 h3
theorem RUm.upd {s s' : St} {u : Nat → RU} {R r : Nat} {x : RU} (M : RUm s u R) (hr : r < R) (h1 : gI s' 2536 = gI s 2536) (h2 : ∀ k, k < R → k ≠ r → RM1 s k (u k) → RM1 s' k (u k)) (h3 : RM1 s' r x) (h4 : ∀ k, R ≤ k → k < 4 → gA s' 62 k = gA s 62 k ∧ gA s' 64 k = gA s 64 k ∧ gA s' 65 k = gA s 65 k) : RUm s' (ups u r x) R := by
  refine ⟨h1.trans M.1, fun k hk => ?_, fun k hk hk4 => by rw [(h4 k hk hk4).1, (h4 k hk hk4).2.1, (h4 k hk hk4).2.2]; exact M.2.2 k hk hk4⟩
  unfold ups
  by_cases e : k = r
  · rw [if_pos e, e]; exact h3
  · rw [if_neg e]; exact h2 k hk e (M.2.1 k hk)
theorem HS.upd {L : Nat → LR} {m : Nat} {u : Nat → RU} {R h r : Nat} {x : RU} (H : HS L m u R h) (h1 : rcn L m x (uend x h - um x) = (un x, ul x)) : HS L m (ups u r x) R h := fun k hk => by
  unfold ups
  by_cases e : k = r
  · rw [if_pos e]; exact h1
  · rw [if_neg e]; exact H k hk
theorem csum_upd {u : Nat → RU} {r : Nat} {x : RU} (hx : un x = un (u r)) : ∀ R, csum (ups u r x) R = csum u R := by
  intro R
  induction R with
  | zero => rfl
  | succ R ih =>
    show csum (ups u r x) R + un (ups u r x R) = csum u R + un (u R)
    rw [ih]
    congr 1
    unfold ups
    by_cases e : R = r
    · rw [if_pos e, hx, e]
    · rw [if_neg e]
theorem rcn_congr {L : Nat → LR} {m : Nat} {x y : RU} (h1 : um y = um x) : ∀ k, (∀ th l, um x < th → th ≤ um x + k → dueB L m y th l = dueB L m x th l) → rcn L m y k = rcn L m x k := by
  intro k
  induction k with
  | zero => intro _; rfl
  | succ k ih =>
    intro h2
    unfold rcn
    rw [ih (fun th l a b => h2 th l a (by omega)), h1, h2 _ _ (by omega) (by omega)]
def uDrop (x : RU) (h : Nat) : RU := (uq x, uc x, uo x, uw x, ur x, um x, h + 1, us x, un x, ul x)
theorem op_drop {F R n h m : Nat} {s : St} {u : Nat → RU} {L : Nat → LR} (H : HH s h) (C : RUc s u R) (M : RUm s u R) (G : RUg u R h n) (hS : HS L m u R h) (x : Int32) :
    ∃ k s1, f_L_drop F s x = some (k, s1) ∧ ∀ N, sz s1 ≤ N → ∃ b s2, f_M_drop F (sz' s1 N) x = some (b, s2) ∧ gI s2 2551 = k ∧ (k = 0 → gJ s2 70 0 = b.toInt64) ∧ FY [2551] [62] s s2 ∧ NM s s2 ∧ ∃ u', RUc s2 u' R ∧ RUm s2 u' R ∧ RUg u' R h n ∧ HS L m u' R h ∧ csum u' R = csum u R := by
  have hz := szlt s
  have hh := H.1
  have hR := G.1
  have bad : ∀ t N, sz s ≤ N → FY [2551] [62] s (sI (sz' s N) 2551 t) ∧ NM s (sI (sz' s N) 2551 t) ∧ ∃ u', RUc (sI (sz' s N) 2551 t) u' R ∧ RUm (sI (sz' s N) 2551 t) u' R ∧ RUg u' R h n ∧ HS L m u' R h ∧ csum u' R = csum u R := fun t N hN => by
    have f : Fr [2551] [] s (sI (sz' s N) 2551 t) := (Fr.rf.Z hN).I (by decide)
    exact ⟨(f.wide (eA' := [62]) (fun _ h => h) (fun _ h => by cases h)).fx.swD, f.nm, u, C.fr f, M.fr f, G, hS, rfl⟩
  by_cases hx : ∃ r, r < R ∧ x = io r
  · obtain ⟨r, hr, rfl⟩ := hx
    obtain ⟨o, nq, d1, k1, k2, k3, k4, k5, k8, k9, k10, k0, k6, k7, kT, kD⟩ := (C.2 r hr).2.dg
    have hne : ¬ some (uq (u r)) = none := by simp
    obtain ⟨m1, m2, m3, m4, m5, m6, m7, m8, m9⟩ := M.2.1 r hr
    obtain ⟨g1, g2, g3, g4, g5, g6, g7, g8, g9, g10, g11, g12, g13⟩ := G.2.1 r hr
    by_cases hd : ud (u r) = 0
    · have e5 : o.1 5 = -io 1 := by rw [k5, hd]; rfl
      rw [hd, if_pos rfl] at m4
      obtain ⟨x', hx'⟩ : ∃ x', x' = uDrop (u r) h := ⟨_, rfl⟩
      have hxq : uq x' = uq (u r) := by rw [hx']; rfl
      have hD1 : dgo (sF s (uq (u r), o) 6 (ups o.1 5 (io h), o.2)) (some (uq (u r))) 6 = some (uq (u r), (ups o.1 5 (io h), o.2)) := dgo_sF (o := (uq (u r), o))
      have h9 : (ups o.1 5 (io h)) 9 = io (un (u r)) := by unfold ups; rw [if_neg (by decide)]; exact k9
      refine ⟨io 0, sJ (sF s (uq (u r), o) 6 (ups o.1 5 (io h), o.2)) 70 0 (io (un (u r))).toInt64, ?_, fun N hN => ?_⟩
      · simp (disch := omega) only [f_L_drop, f_P_drop, f_Rule_isDropped, Option.bind_some, Nat.reduceEqDiff, Nat.add_zero, Nat.zero_add, Nat.reduceLT, Nat.reduceLeDiff, Nat.reduceAdd, Nat.reduceSub, Nat.reduceMul, Nat.reduceDiv, Nat.lt_irrefl, Nat.not_lt_zero, Nat.zero_le, Nat.one_ne_zero, Nat.succ_ne_zero,  lt_def, i32_lit, reduceIte, P_isIn_eq, M_isIn_eq, M_goes_eq, or_false, false_or, or_true, true_or, and_true, true_and, and_false, false_and, not_true, not_false_eq_true, eq_self, if_true, if_false, not_or, not_and, Nat.not_lt, Nat.not_le, ruleAt_t C hR hr, hne, d1, e5, H.2.1, hD1, h9]
      · obtain ⟨s2, hs2⟩ : ∃ s2, s2 = sA (sI (sz' (sJ (sF s (uq (u r), o) 6 (ups o.1 5 (io h), o.2)) 70 0 (io (un (u r))).toInt64) N) 2551 (io 0)) 62 r (io 1) := ⟨_, rfl⟩
        have hN' : sz s ≤ N := hN
        have fy : FY [2551] [62] s s2 := by
          rw [hs2]
          refine ⟨fun k hk => ?_, fun k hk => ?_, rfl, rfl, hN'⟩
          · show (if k = 2551 then io 0 else gI s k) = gI s k
            rw [if_neg (fun e => hk (by rw [e]; decide))]
          · funext j
            show gA (sA _ 62 r (io 1)) k j = gA s k j
            rw [gA_sA, if_neg (fun e => hk (by rw [e]; decide))]; rfl
        have hgD : ∀ q, gD s2 q = if q = uq (u r) then some (.inl (6, (ups o.1 5 (io h), o.2))) else gD s q := fun q => by rw [hs2]; rfl
        have nm : NM s s2 := ⟨by rw [hs2]; exact hN', fun q o2 hq hq2 => by
          rw [hgD]
          by_cases e : q = uq (u r)
          · rw [e, kD] at hq2; cases hq2
          · rw [if_neg e]; exact hq2⟩
        refine ⟨io (un (u r)), s2, ?_, by rw [hs2]; rfl, fun _ => by rw [hs2]; rfl, fy, nm, ups u r x', ?_, ?_, ?_, ?_, csum_upd (by rw [hx']; rfl) R⟩
        · have e62 : gA (sz' (sJ (sF s (uq (u r), o) 6 (ups o.1 5 (io h), o.2)) 70 0 (io (un (u r))).toInt64) N) 62 r = io 0 := m4
          have hir := isRule_t (F := F) (s := sz' (sJ (sF s (uq (u r), o) 6 (ups o.1 5 (io h), o.2)) 70 0 (io (un (u r))).toInt64) N) M.1 hR hr
          have e64 : gA s2 64 r = io (un (u r)) := by rw [hs2]; exact m5
          rw [hs2] at e64 ⊢
          simp (disch := omega) only [f_M_drop, Option.bind_some, Nat.reduceEqDiff, Nat.add_zero, Nat.zero_add, Nat.reduceLT, Nat.reduceLeDiff, Nat.reduceAdd, Nat.reduceSub, Nat.reduceMul, Nat.reduceDiv, Nat.lt_irrefl, Nat.not_lt_zero, Nat.zero_le, Nat.one_ne_zero, Nat.succ_ne_zero,  lt_def, i32_lit, reduceIte, P_isIn_eq, M_isIn_eq, M_goes_eq, or_false, false_or, or_true, true_or, and_true, true_and, and_false, false_and, not_true, not_false_eq_true, eq_self, if_true, if_false, not_or, not_and, Nat.not_lt, Nat.not_le, hir, io_eq, ix_io, e62, e64]
        · refine C.upd G hr hxq (fun q hq hqs => ?_) nm (by rw [hs2]; rfl) (by rw [hs2]; rfl) ?_
          · rw [hgD, if_neg (by omega)]
          · obtain ⟨a1, o', g6', g7', nq', a2, a3, a4, a5, a6, a7, a8, a9, a10, a11, a12, a13, a14, a15, a16, a17⟩ := (C.2 r hr).2
            rw [kD] at a2
            cases a2
            refine ⟨by rw [hxq, hs2]; exact Nat.lt_of_lt_of_le a1 hN', (ups o.1 5 (io h), o.2), g6', g7', nq', by rw [hxq, hgD, if_pos rfl], by rw [hxq, hgD, if_neg (by omega)]; exact a3, by rw [hxq, hgD, if_neg (by omega)]; exact a4, ?_⟩
            rw [hx']
            refine ⟨k1, k2, k3, k4, ?_, k8, k9, k10, a13, k6, k7, TQ.nm nm _ _ _ a16, a17⟩
            show io h = dn (h + 1)
            rfl
        · refine M.upd hr (by rw [hs2]; rfl) (fun k hk hkr hm => ?_) ?_ (fun k hk hk4 => ?_)
          · have e62 : gA s2 62 k = gA s 62 k := by
              rw [hs2, gA_sA, if_pos rfl, if_neg hkr]; rfl
            obtain ⟨b1, b2, b3, b4, b5, b6, b7, b8, b9⟩ := hm
            refine ⟨by rw [hs2]; exact b1, by rw [hs2]; exact b2, by rw [hs2]; exact b3, by rw [e62]; exact b4, by rw [hs2]; exact b5, by rw [hs2]; exact b6, by rw [hs2]; exact b7, by rw [hs2]; exact b8, by rw [hs2]; exact b9⟩
          · rw [hx']
            refine ⟨by rw [hs2]; exact m1, by rw [hs2]; exact m2, by rw [hs2]; exact m3, ?_, by rw [hs2]; exact m5, by rw [hs2]; exact m6, by rw [hs2]; exact m7, by rw [hs2]; exact m8, by rw [hs2]; exact m9⟩
            rw [hs2, gA_sA, if_pos rfl, if_pos rfl]
            rfl
          · rw [hs2]
            refine ⟨?_, rfl, rfl⟩
            rw [gA_sA, if_pos rfl, if_neg (by omega)]; rfl
        · refine G.upd hr hxq ?_
          rw [hx']
          exact ⟨g1, g2, g3, g4, g5, g6, g7, Or.inr ⟨by show um (u r) < h + 1; omega, Nat.le_refl _⟩, g9, g10, g11, g12, g13⟩
        · refine hS.upd ?_
          have h8 := hS r hr
          unfold uend at h8
          rw [if_pos hd] at h8
          rw [hx']
          show rcn L m (uDrop (u r) h) (h - um (u r)) = (un (u r), ul (u r))
          rw [rcn_congr (x := u r) (y := uDrop (u r) h) rfl _ (fun th l _ _ => rfl)]
          exact h8
    · have e5 : ¬ o.1 5 = -io 1 := by
        rw [k5]; unfold dn; rw [if_neg hd, io_neg1 (by omega)]; exact id
      rw [if_neg hd] at m4
      refine ⟨io 2, s, ?_, fun N hN => ?_⟩
      · simp (disch := omega) only [f_L_drop, f_P_drop, f_Rule_isDropped, Option.bind_some, Nat.reduceEqDiff, Nat.add_zero, Nat.zero_add, Nat.reduceLT, Nat.reduceLeDiff, Nat.reduceAdd, Nat.reduceSub, Nat.reduceMul, Nat.reduceDiv, Nat.lt_irrefl, Nat.not_lt_zero, Nat.zero_le, Nat.one_ne_zero, Nat.succ_ne_zero,  lt_def, i32_lit, reduceIte, P_isIn_eq, M_isIn_eq, M_goes_eq, or_false, false_or, or_true, true_or, and_true, true_and, and_false, false_and, not_true, not_false_eq_true, eq_self, if_true, if_false, not_or, not_and, Nat.not_lt, Nat.not_le, ruleAt_t C hR hr, hne, d1, e5, io_eq, hz]
      · refine ⟨io 0, sI (sz' s N) 2551 (io 2), ?_, rfl, fun h => absurd h (by decide), bad _ N hN⟩
        have e62 : gA (sz' s N) 62 r = io 1 := m4
        have hir := isRule_t (F := F) (s := sz' s N) M.1 hR hr
        simp (disch := omega) only [f_M_drop, Option.bind_some, Nat.reduceEqDiff, Nat.add_zero, Nat.zero_add, Nat.reduceLT, Nat.reduceLeDiff, Nat.reduceAdd, Nat.reduceSub, Nat.reduceMul, Nat.reduceDiv, Nat.lt_irrefl, Nat.not_lt_zero, Nat.zero_le, Nat.one_ne_zero, Nat.succ_ne_zero,  lt_def, i32_lit, reduceIte, P_isIn_eq, M_isIn_eq, M_goes_eq, or_false, false_or, or_true, true_or, and_true, true_and, and_false, false_and, not_true, not_false_eq_true, eq_self, if_true, if_false, not_or, not_and, Nat.not_lt, Nat.not_le, hir, io_eq, ix_io, e62]
  · refine ⟨io 1, s, ?_, fun N hN => ⟨io 0, sI (sz' s N) 2551 (io 1), ?_, rfl, fun h => absurd h (by decide), bad _ N hN⟩⟩
    · simp (disch := omega) only [f_L_drop, f_P_drop, Option.bind_some, Nat.reduceEqDiff, Nat.add_zero, Nat.zero_add, Nat.reduceLT, Nat.reduceLeDiff, Nat.reduceAdd, Nat.reduceSub, Nat.reduceMul, Nat.reduceDiv, Nat.lt_irrefl, Nat.not_lt_zero, Nat.zero_le, Nat.one_ne_zero, Nat.succ_ne_zero,  lt_def, i32_lit, reduceIte, P_isIn_eq, M_isIn_eq, M_goes_eq, or_false, false_or, or_true, true_or, and_true, true_and, and_false, false_and, not_true, not_false_eq_true, eq_self, if_true, if_false, not_or, not_and, Nat.not_lt, Nat.not_le, ruleAt_f C hR hx, hz]
    · have hir := isRule_f (F := F) (s := sz' s N) M.1 hR hx
      simp (disch := omega) only [f_M_drop, Option.bind_some, Nat.reduceEqDiff, Nat.add_zero, Nat.zero_add, Nat.reduceLT, Nat.reduceLeDiff, Nat.reduceAdd, Nat.reduceSub, Nat.reduceMul, Nat.reduceDiv, Nat.lt_irrefl, Nat.not_lt_zero, Nat.zero_le, Nat.one_ne_zero, Nat.succ_ne_zero,  lt_def, i32_lit, reduceIte, P_isIn_eq, M_isIn_eq, M_goes_eq, or_false, false_or, or_true, true_or, and_true, true_and, and_false, false_and, not_true, not_false_eq_true, eq_self, if_true, if_false, not_or, not_and, Nat.not_lt, Nat.not_le, hir, io_eq]
