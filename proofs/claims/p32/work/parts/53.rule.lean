/-! rules -/
def yu' (y : GS) (u : Nat → RU) : GS := (yh y, yg y, yd y, ya y, yc y, yw y, u)
section WR
variable {F Z : Nat} {s : St} {w : WD}
theorem CV.ru (H : CV s w) : RUc s (yu (vy w)) (vR w) ∧ RUg (yu (vy w)) (vR w) (yh (vy w)) (vn w) ∧ HS (vL w) (vm w) (yu (vy w)) (vR w) (yh (vy w)) ∧ LGc s (vL w) (vm w) ∧ LGg (vL w) (vm w) (yh (vy w)) ∧ (∃ vs, TLw s vs) ∧ ∃ vs, TLr s vs :=
  ⟨H.1.2.2.2.2.2.1, H.2.1.2.2.2.2.2.1, H.2.1.2.2.2.2.2.2.1, H.1.2.2.2.2.2.2.1, H.2.1.2.2.2.2.2.2.2.2, H.1.2.2.2.2.2.2.2, H.2.2.2.2.2.2⟩
/-- how many logs lie in a rule's window now -/
def winN (w : WD) (r : Nat) : Nat := (pks (vL w) (vm w) (yh (vy w) + 1 - uw (yu (vy w) r)) (yh (vy w)) (yh (vy w))).length
theorem W_inWindow (hF : 5000 ≤ F) (H : CV s w) {r : Nat} (hr : r < vR w) : ∃ s', f_P_inWindow F Z s (io r) = some (.inl (io (winN w r)), s') ∧ CV s' w ∧ KA s s' := by
  obtain ⟨C, G, hS, LC, LG, ⟨v1, T1⟩, v2, T2⟩ := H.ru
  obtain ⟨h1, hh⟩ := H.h
  obtain ⟨g1, g2, g3, g4, g5, -⟩ := G.2.1 r hr
  obtain ⟨s1, e1, e2, e3⟩ := pickW_eq (F := F) (th := yh (vy w)) (tb := yh (vy w)) hF LC LG hh (C.2 r hr).2 ⟨g4, g5⟩ hh hh
  have hne : ¬ some (uq (yu (vy w) r)) = none := by simp
  have e201 := e2.2.2.2.1.1
  have f := e3.fx
  refine ⟨s1, ?_, H.fx f ⟨v1, T1.fx f⟩ ⟨v2, T2.fx f⟩, KA.fx f⟩
  simp (disch := omega) only [f_P_inWindow, Option.bind_some, Nat.reduceEqDiff, Nat.add_zero, Nat.zero_add, Nat.reduceLT, Nat.reduceLeDiff, Nat.reduceAdd, Nat.reduceSub, Nat.reduceMul, Nat.reduceDiv, Nat.lt_irrefl, Nat.not_lt_zero, Nat.zero_le, Nat.one_ne_zero, Nat.succ_ne_zero,  lt_def, i32_lit, reduceIte, P_isIn_eq, or_false, false_or, or_true, true_or, and_true, true_and, and_false, false_and, not_true, not_false_eq_true, eq_self, if_true, if_false, not_or, not_and, Nat.not_lt, Nat.not_le, ruleAt_t C G.1 hr, hne, h1, e1, e201]
  rfl
theorem W_rises (H : CV s w) {r : Nat} (hr : r < vR w) : f_P_rises F Z s (io r) = some (.inl (io (un (yu (vy w) r))), s) := by
  obtain ⟨C, G, -⟩ := H.ru
  obtain ⟨o, nq, d1, k1, k2, k3, k4, k5, k8, k9, -⟩ := (C.2 r hr).2.dg
  have hne : ¬ some (uq (yu (vy w) r)) = none := by simp
  simp (disch := omega) only [f_P_rises, Option.bind_some, Nat.reduceEqDiff, Nat.add_zero, Nat.zero_add, Nat.reduceLT, Nat.reduceLeDiff, Nat.reduceAdd, Nat.reduceSub, Nat.reduceMul, Nat.reduceDiv, Nat.lt_irrefl, Nat.not_lt_zero, Nat.zero_le, Nat.one_ne_zero, Nat.succ_ne_zero,  lt_def, i32_lit, reduceIte, P_isIn_eq, or_false, false_or, or_true, true_or, and_true, true_and, and_false, false_and, not_true, not_false_eq_true, eq_self, if_true, if_false, not_or, not_and, Nat.not_lt, Nat.not_le, ruleAt_t C G.1 hr, hne, d1, k9]
/-- where no rule is -/
theorem W_rule_x (H : CV s w) {x y v : Int32} (hx : ¬ ∃ r, r < vR w ∧ x = io r) : f_P_inWindow F Z s x = xz Z s 2 ∧ f_P_rises F Z s x = xz Z s 2 ∧ f_P_risesAnew F Z s x = xz Z s 2 ∧ f_P_drop F Z s x = xz Z s 2 ∧ f_P_silence F Z s x y v = xz Z s 2 := by
  obtain ⟨C, G, -⟩ := H.ru
  have hf := ruleAt_f (F := F) C G.1 hx
  refine ⟨?_, ?_, ?_, ?_, ?_⟩
  · simp (disch := omega) only [f_P_inWindow, Option.bind_some, Nat.reduceEqDiff, Nat.add_zero, Nat.zero_add, Nat.reduceLT, Nat.reduceLeDiff, Nat.reduceAdd, Nat.reduceSub, Nat.reduceMul, Nat.reduceDiv, Nat.lt_irrefl, Nat.not_lt_zero, Nat.zero_le, Nat.one_ne_zero, Nat.succ_ne_zero,  lt_def, i32_lit, reduceIte, P_isIn_eq, or_false, false_or, or_true, true_or, and_true, true_and, and_false, false_and, not_true, not_false_eq_true, eq_self, if_true, if_false, not_or, not_and, Nat.not_lt, Nat.not_le, hf]
  · simp (disch := omega) only [f_P_rises, Option.bind_some, Nat.reduceEqDiff, Nat.add_zero, Nat.zero_add, Nat.reduceLT, Nat.reduceLeDiff, Nat.reduceAdd, Nat.reduceSub, Nat.reduceMul, Nat.reduceDiv, Nat.lt_irrefl, Nat.not_lt_zero, Nat.zero_le, Nat.one_ne_zero, Nat.succ_ne_zero,  lt_def, i32_lit, reduceIte, P_isIn_eq, or_false, false_or, or_true, true_or, and_true, true_and, and_false, false_and, not_true, not_false_eq_true, eq_self, if_true, if_false, not_or, not_and, Nat.not_lt, Nat.not_le, hf]
  · simp (disch := omega) only [f_P_risesAnew, Option.bind_some, Nat.reduceEqDiff, Nat.add_zero, Nat.zero_add, Nat.reduceLT, Nat.reduceLeDiff, Nat.reduceAdd, Nat.reduceSub, Nat.reduceMul, Nat.reduceDiv, Nat.lt_irrefl, Nat.not_lt_zero, Nat.zero_le, Nat.one_ne_zero, Nat.succ_ne_zero,  lt_def, i32_lit, reduceIte, P_isIn_eq, or_false, false_or, or_true, true_or, and_true, true_and, and_false, false_and, not_true, not_false_eq_true, eq_self, if_true, if_false, not_or, not_and, Nat.not_lt, Nat.not_le, hf]
  · simp (disch := omega) only [f_P_drop, Option.bind_some, Nat.reduceEqDiff, Nat.add_zero, Nat.zero_add, Nat.reduceLT, Nat.reduceLeDiff, Nat.reduceAdd, Nat.reduceSub, Nat.reduceMul, Nat.reduceDiv, Nat.lt_irrefl, Nat.not_lt_zero, Nat.zero_le, Nat.one_ne_zero, Nat.succ_ne_zero,  lt_def, i32_lit, reduceIte, P_isIn_eq, or_false, false_or, or_true, true_or, and_true, true_and, and_false, false_and, not_true, not_false_eq_true, eq_self, if_true, if_false, not_or, not_and, Nat.not_lt, Nat.not_le, hf]
  · simp (disch := omega) only [f_P_silence, Option.bind_some, Nat.reduceEqDiff, Nat.add_zero, Nat.zero_add, Nat.reduceLT, Nat.reduceLeDiff, Nat.reduceAdd, Nat.reduceSub, Nat.reduceMul, Nat.reduceDiv, Nat.lt_irrefl, Nat.not_lt_zero, Nat.zero_le, Nat.one_ne_zero, Nat.succ_ne_zero,  lt_def, i32_lit, reduceIte, P_isIn_eq, or_false, false_or, or_true, true_or, and_true, true_and, and_false, false_and, not_true, not_false_eq_true, eq_self, if_true, if_false, not_or, not_and, Nat.not_lt, Nat.not_le, hf]
theorem W_risesAnew (hF : 5000 ≤ F) (H : CV s w) {r : Nat} (hr : r < vR w) : ∃ s', f_P_risesAnew F Z s (io r) = some (.inl (io (un (yu (vy w) r))), s') ∧ CV s' w ∧ KA s s' := by
  obtain ⟨C, G, hS, LC, LG, TT, v2, T2⟩ := H.ru
  obtain ⟨h2, hh⟩ := H.h
  obtain ⟨g1, g2, g3, g4, g5, g6, g7, g8, g9, g10, g11, g12, g13⟩ := G.2.1 r hr
  have hend : um (yu (vy w) r) ≤ uend (yu (vy w) r) (yh (vy w)) ∧ uend (yu (vy w) r) (yh (vy w)) ≤ 1000 := by
    unfold uend
    by_cases e : ud (yu (vy w) r) = 0
    · rw [if_pos e]; omega
    · rw [if_neg e]; omega
  obtain ⟨s1, e1, f1, T1⟩ := anew_loop (F := F) (Z := Z) hF LC LG hh (C.2 r hr).2 ⟨g4, g5⟩ g6 g9 g10 hend.1 hend.2 (uend (yu (vy w) r) (yh (vy w)) - um (yu (vy w) r)) F 0 s (by omega) (by omega) Fr.rf TT
  rw [hS r hr] at e1
  have e1' : f_P_risesAnew_b53 F Z F s (some (uq (yu (vy w) r))) (io (uend (yu (vy w) r) (yh (vy w)))) (io 0) (-io 1) (io (um (yu (vy w) r) + 1)) = some (.inl (io (un (yu (vy w) r))), s1) := e1
  obtain ⟨o, nq, d1, k1, k2, k3, k4, k5, k8, k9, k10, k0, k6, k7, kT, kD⟩ := (C.2 r hr).2.dg
  have hne : ¬ some (uq (yu (vy w) r)) = none := by simp
  have f := f1.fx
  refine ⟨s1, ?_, H.fx f T1 ⟨v2, T2.fx f⟩, KA.fx f⟩
  by_cases e : ud (yu (vy w) r) = 0
  · have e5 : o.1 5 = -io 1 := by rw [k5, e]; rfl
    have eu : uend (yu (vy w) r) (yh (vy w)) = yh (vy w) := if_pos e
    rw [eu] at e1'
    simp (disch := omega) only [f_P_risesAnew, f_Rule_isDropped, Option.bind_some, Nat.reduceEqDiff, Nat.add_zero, Nat.zero_add, Nat.reduceLT, Nat.reduceLeDiff, Nat.reduceAdd, Nat.reduceSub, Nat.reduceMul, Nat.reduceDiv, Nat.lt_irrefl, Nat.not_lt_zero, Nat.zero_le, Nat.one_ne_zero, Nat.succ_ne_zero,  lt_def, i32_lit, reduceIte, P_isIn_eq, or_false, false_or, or_true, true_or, and_true, true_and, and_false, false_and, not_true, not_false_eq_true, eq_self, if_true, if_false, not_or, not_and, Nat.not_lt, Nat.not_le, ruleAt_t C G.1 hr, hne, d1, e5, h2, k4, io_add, e1', io_eq]
  · have e5 : o.1 5 = io (ud (yu (vy w) r) - 1) := by rw [k5]; exact dn_pos (by omega)
    have eu : uend (yu (vy w) r) (yh (vy w)) = ud (yu (vy w) r) - 1 := if_neg e
    rw [eu] at e1'
    simp (disch := omega) only [f_P_risesAnew, f_Rule_isDropped, Option.bind_some, Nat.reduceEqDiff, Nat.add_zero, Nat.zero_add, Nat.reduceLT, Nat.reduceLeDiff, Nat.reduceAdd, Nat.reduceSub, Nat.reduceMul, Nat.reduceDiv, Nat.lt_irrefl, Nat.not_lt_zero, Nat.zero_le, Nat.one_ne_zero, Nat.succ_ne_zero,  lt_def, i32_lit, reduceIte, P_isIn_eq, or_false, false_or, or_true, true_or, and_true, true_and, and_false, false_and, not_true, not_false_eq_true, eq_self, if_true, if_false, not_or, not_and, Nat.not_lt, Nat.not_le, ruleAt_t C G.1 hr, hne, d1, e5, h2, k4, io_add, e1', io_eq, io_neg1]
/-- one rule changes -/
theorem GF.rule {L : Nat → LR} {m n R : Nat} {y : GS} (g : GF L m n R y) {r : Nat} {x : RU} (hr : r < R) (hx : uq x = uq (yu y r)) (h1 : RG1 (yh y) n x) (h2 : rcn L m x (uend x (yh y) - um x) = (un x, ul x)) (h3 : un x = un (yu y r)) : GF L m n R (yu' y (ups (yu y) r x)) := by
  obtain ⟨g1, g2, g3, g4, g5, g6, g7, g8, g9⟩ := g
  exact ⟨g1, g2, g3, g4, g5, g6.upd hr hx h1, g7.upd h2, g8.trans (csum_upd h3 R).symm, g9⟩
theorem CV.rule {s' : St} (H : CV s w) {r : Nat} {x : RU} (hr : r < vR w) (hx : uq x = uq (yu (vy w) r)) (h1 : RG1 (yh (vy w)) (vn w) x) (h2 : rcn (vL w) (vm w) x (uend x (yh (vy w)) - um x) = (un x, ul x)) (h3 : un x = un (yu (vy w) r))
    (i1 : gI s' = gI s) (i2 : gA s' = gA s) (hC : RUc s' (ups (yu (vy w)) r x) (vR w)) : CV s' (yu' (vy w) (ups (yu (vy w)) r x), vL w, vm w, vn w, vR w, vt w, vk w) ∧ KA s s' := by
  obtain ⟨⟨c1, c2, c3, c4, c5, c6, c7, c8⟩, g, hn8, t1, t2, t3, t4⟩ := H
  have hl : ∀ {vs}, TLw s vs → TLw s' vs := fun {vs} h => by
    obtain ⟨a1, a2, a3, a4, a5⟩ := h
    exact ⟨a1, by rw [i1]; exact a2, fun i hi => by rw [i2]; exact a3 i hi, a4, fun x hx => by rw [i2]; exact a5 x hx⟩
  have hl2 : ∀ {vs}, TLr s vs → TLr s' vs := fun {vs} h => by
    obtain ⟨a1, a2, a3, a4, a5⟩ := h
    exact ⟨a1, by rw [i1]; exact a2, fun i hi => by rw [i2]; exact a3 i hi, a4, fun x hx => by rw [i2]; exact a5 x hx⟩
  refine ⟨⟨⟨by rw [i1]; exact c1, ⟨c2.1, by rw [i1]; exact c2.2⟩, fun j hj => by rw [i2]; exact c3 j hj, ⟨by rw [i1]; exact c4.1, fun i hi => by rw [i2]; exact c4.2 i hi⟩, ⟨by rw [i1]; exact c5.1, by rw [i1]; exact c5.2.1, fun i hi hi2 => by rw [i2]; exact c5.2.2.1 i hi hi2, fun i hi => by rw [i2]; exact c5.2.2.2 i hi⟩, hC, ⟨by rw [i1]; exact c7.1, fun k hk => by rw [i2]; exact c7.2.1 k hk, fun k hk => by rw [i2]; exact c7.2.2 k hk⟩, c8.elim fun vs h => ⟨vs, hl h⟩⟩, g.rule hr hx h1 h2 h3, hn8, t1, fun k hk => by rw [i2]; exact t2 k hk, by rw [i1]; exact t3, t4.elim fun vs h => ⟨vs, hl2 h⟩⟩, fun k _ => by rw [i2]⟩
theorem W_drop (H : CV s w) {r : Nat} (hr : r < vR w) (hd : ud (yu (vy w) r) = 0) : ∃ s', f_P_drop F Z s (io r) = some (.inl (io (un (yu (vy w) r))), s') ∧ CV s' (yu' (vy w) (ups (yu (vy w)) r (uDrop (yu (vy w) r) (yh (vy w)))), vL w, vm w, vn w, vR w, vt w, vk w) ∧ KA s s' := by
  obtain ⟨C, G, hS, -⟩ := H.ru
  obtain ⟨h2, hh⟩ := H.h
  obtain ⟨u, hu⟩ : ∃ u, u = yu (vy w) := ⟨_, rfl⟩
  rw [← hu] at C G hS hd ⊢
  obtain ⟨h, hhh⟩ : ∃ h, h = yh (vy w) := ⟨_, rfl⟩
  rw [← hhh] at G hS h2 hh ⊢
  obtain ⟨o, nq, d1, k1, k2, k3, k4, k5, k8, k9, k10, k0, k6, k7, kT, kD⟩ := (C.2 r hr).2.dg
  have hne : ¬ some (uq (u r)) = none := by simp
  obtain ⟨g1, g2, g3, g4, g5, g6, g7, g8, g9, g10, g11, g12, g13⟩ := G.2.1 r hr
  have e5 : o.1 5 = -io 1 := by rw [k5, hd]; rfl
  have hD1 : dgo (sF s (uq (u r), o) 6 (ups o.1 5 (io h), o.2)) (some (uq (u r))) 6 = some (uq (u r), (ups o.1 5 (io h), o.2)) := dgo_sF (o := (uq (u r), o))
  have h9 : (ups o.1 5 (io h)) 9 = io (un (u r)) := by unfold ups; rw [if_neg (by decide)]; exact k9
  obtain ⟨s2, hs2⟩ : ∃ s2, s2 = sF s (uq (u r), o) 6 (ups o.1 5 (io h), o.2) := ⟨_, rfl⟩
  have hgD : ∀ q, gD s2 q = if q = uq (u r) then some (.inl (6, (ups o.1 5 (io h), o.2))) else gD s q := fun q => by rw [hs2]; rfl
  have hsz : sz s2 = sz s := by rw [hs2]; rfl
  have nm : NM s s2 := ⟨Nat.le_of_eq hsz.symm, fun q o2 hq hq2 => by
    rw [hgD]
    by_cases e : q = uq (u r)
    · rw [e, kD] at hq2; cases hq2
    · rw [if_neg e]; exact hq2⟩
  have hC : RUc s2 (ups u r (uDrop (u r) h)) (vR w) := by
    refine C.upd G hr rfl (fun q hq hqs => ?_) nm (by rw [hs2]; rfl) (by rw [hs2]; rfl) ?_
    · have hq' : q < uq (u r) ∨ uq (u r) + 3 ≤ q := hq
      rw [hgD, if_neg (by omega)]
    · obtain ⟨a1, o', g6', g7', nq', a2, a3, a4, a5, a6, a7, a8, a9, a10, a11, a12, a13, a14, a15, a16, a17⟩ := (C.2 r hr).2
      rw [kD] at a2
      cases a2
      refine ⟨by rw [hsz]; exact a1, (ups o.1 5 (io h), o.2), g6', g7', nq', by show gD s2 (uq (u r)) = _; rw [hgD, if_pos rfl], by show gD s2 (uq (u r) + 1) = _; rw [hgD, if_neg (by omega)]; exact a3, by show gD s2 (uq (u r) + 2) = _; rw [hgD, if_neg (by omega)]; exact a4, ?_⟩
      exact ⟨k1, k2, k3, k4, rfl, k8, k9, k10, a13, k6, k7, TQ.nm nm _ _ _ a16, a17⟩
  have hcv := H.rule (s' := s2) (r := r) (x := uDrop (u r) h) hr (by rw [hu]; rfl) (by rw [← hhh]; exact ⟨g1, g2, g3, g4, g5, g6, g7, Or.inr ⟨by show um (u r) < h + 1; omega, Nat.le_refl _⟩, g9, g10, g11, g12, g13⟩) (by
    have h8 := hS r hr
    unfold uend at h8
    rw [if_pos hd] at h8
    rw [← hhh]
    show rcn (vL w) (vm w) (uDrop (u r) h) (h - um (u r)) = (un (u r), ul (u r))
    rw [rcn_congr (x := u r) (y := uDrop (u r) h) rfl _ (fun th l _ _ => rfl)]
    exact h8) (by rw [hu]; rfl) (by rw [hs2]; rfl) (by rw [hs2]; rfl) (by rw [← hu]; exact hC)
  rw [← hu] at hcv
  refine ⟨s2, ?_, hcv.1, hcv.2⟩
  rw [hs2]
  simp (disch := omega) only [f_P_drop, f_Rule_isDropped, Option.bind_some, Nat.reduceEqDiff, Nat.add_zero, Nat.zero_add, Nat.reduceLT, Nat.reduceLeDiff, Nat.reduceAdd, Nat.reduceSub, Nat.reduceMul, Nat.reduceDiv, Nat.lt_irrefl, Nat.not_lt_zero, Nat.zero_le, Nat.one_ne_zero, Nat.succ_ne_zero,  lt_def, i32_lit, reduceIte, P_isIn_eq, or_false, false_or, or_true, true_or, and_true, true_and, and_false, false_and, not_true, not_false_eq_true, eq_self, if_true, if_false, not_or, not_and, Nat.not_lt, Nat.not_le, ruleAt_t C G.1 hr, hne, d1, e5, h2, hD1, h9]
theorem W_drop_x (H : CV s w) {r : Nat} (hr : r < vR w) (hd : ¬ ud (yu (vy w) r) = 0) : f_P_drop F Z s (io r) = xz Z s 1 := by
  obtain ⟨C, G, hS, -⟩ := H.ru
  obtain ⟨h2, hh⟩ := H.h
  obtain ⟨o, nq, d1, k1, k2, k3, k4, k5, k8, k9, k10, k0, k6, k7, kT, kD⟩ := (C.2 r hr).2.dg
  obtain ⟨g1, g2, g3, g4, g5, g6, g7, g8, -⟩ := G.2.1 r hr
  have hne : ¬ some (uq (yu (vy w) r)) = none := by simp
  have e5 : ¬ o.1 5 = -io 1 := by
    rw [k5]; unfold dn; rw [if_neg hd, io_neg1 (by omega)]; exact id
  simp (disch := omega) only [f_P_drop, f_Rule_isDropped, Option.bind_some, Nat.reduceEqDiff, Nat.add_zero, Nat.zero_add, Nat.reduceLT, Nat.reduceLeDiff, Nat.reduceAdd, Nat.reduceSub, Nat.reduceMul, Nat.reduceDiv, Nat.lt_irrefl, Nat.not_lt_zero, Nat.zero_le, Nat.one_ne_zero, Nat.succ_ne_zero,  lt_def, i32_lit, reduceIte, P_isIn_eq, or_false, false_or, or_true, true_or, and_true, true_and, and_false, false_and, not_true, not_false_eq_true, eq_self, if_true, if_false, not_or, not_and, Nat.not_lt, Nat.not_le, ruleAt_t C G.1 hr, hne, d1, e5, io_eq]
theorem W_silence (H : CV s w) {r a b : Nat} (hr : r < vR w) (hla : yh (vy w) + 1 ≤ a) (hab : a ≤ b) (hb : b ≤ 1000) (h5 : (us (yu (vy w) r)).length < 5) : ∃ s', f_P_silence F Z s (io r) (io a) (io b) = some (.inl (io ((us (yu (vy w) r)).length + 1)), s') ∧ CV s' (yu' (vy w) (ups (yu (vy w)) r (uSil (yu (vy w) r) a b)), vL w, vm w, vn w, vR w, vt w, vk w) ∧ KA s s' := by
  obtain ⟨C, G, hS, -⟩ := H.ru
  obtain ⟨e2, hh⟩ := H.h
  obtain ⟨u, hu⟩ : ∃ u, u = yu (vy w) := ⟨_, rfl⟩
  rw [← hu] at C G hS h5 ⊢
  obtain ⟨h, hhh⟩ : ∃ h, h = yh (vy w) := ⟨_, rfl⟩
  rw [← hhh] at G hS e2 hh hla
  have hR := G.1
  obtain ⟨o, nq, d1, k1, k2, k3, k4, k5, k8, k9, k10, k0, k6, k7, kT, kD⟩ := (C.2 r hr).2.dg
  have hne : ¬ some (uq (u r)) = none := by simp
  obtain ⟨g1, g2, g3, g4, g5, g6, g7, g8, g9, g10, g11, g12, g13⟩ := G.2.1 r hr
  have n1 : ¬ a < h + 1 := by omega
  have n2 : ¬ 1000 < a := by omega
  have n3 : ¬ b < a := by omega
  have n4 : ¬ 1000 < b := by omega
  obtain ⟨ln, hln⟩ : ∃ ln, ln = (us (u r)).length := ⟨_, rfl⟩
  rw [← hln] at h5 k8 ⊢
  obtain ⟨a1, o', g6', g7', nq', a2, a3, a4, a5, a6, a7, a8, a9, a10, a11, a12, a13, a14, a15, a16, a17⟩ := (C.2 r hr).2
  rw [kD] at a2
  cases a2
  obtain ⟨q, hq⟩ : ∃ q, q = uq (u r) := ⟨_, rfl⟩
  rw [← hq] at d1 hne kD a1 a3 a4 k6 k7
  have hrt := ruleAt_t (F := F) C hR hr
  rw [← hq] at hrt
  obtain ⟨sa, hsa⟩ : ∃ sa, sa = sD s (q + 1) (.inr (.inl (1, 5, ups g6' ln (io a)))) := ⟨_, rfl⟩
  obtain ⟨sb, hsb⟩ : ∃ sb, sb = sD sa (q + 2) (.inr (.inl (1, 5, ups g7' ln (io b)))) := ⟨_, rfl⟩
  obtain ⟨sc, hsc⟩ : ∃ sc, sc = sF sb (q, o) 6 (ups o.1 8 (io (ln + 1)), o.2) := ⟨_, rfl⟩
  have ga : ∀ p, gD sa p = if p = q + 1 then some (.inr (.inl (1, 5, ups g6' ln (io a)))) else gD s p := fun p => by rw [hsa, gD_sD]
  have gb : ∀ p, gD sb p = if p = q + 2 then some (.inr (.inl (1, 5, ups g7' ln (io b)))) else gD sa p := fun p => by rw [hsb, gD_sD]
  have gc : ∀ p, gD sc p = if p = q then some (.inl (6, (ups o.1 8 (io (ln + 1)), o.2))) else gD sb p := fun p => by rw [hsc, gD_sF]
  have d1a : dgo sa (some q) 6 = some (q, o) := dgo_at (by rw [ga, if_neg (by omega)]; exact kD)
  have d1b : dgo sb (some q) 6 = some (q, o) := dgo_at (by rw [gb, if_neg (by omega), ga, if_neg (by omega)]; exact kD)
  have d1c : dgo sc (some q) 6 = some (q, (ups o.1 8 (io (ln + 1)), o.2)) := dgo_at (by rw [gc, if_pos rfl])
  have d6 : dga s (some (q + 1)) 1 = some (q + 1, 5, g6') := dga_at a3
  have d7 : dga sa (some (q + 2)) 1 = some (q + 2, 5, g7') := dga_at (by rw [ga, if_neg (by omega)]; exact a4)
  have n5 : ¬ 4 < ln := by omega
  have n0 : ¬ ln < 0 := by omega
  have ead : f_Rule_addSilence F s (some q) (io a) (io b) = some sc := by
    rw [hsc]
    simp (disch := omega) only [f_Rule_addSilence, Option.bind_some, Nat.reduceEqDiff, Nat.add_zero, Nat.zero_add, Nat.reduceLT, Nat.reduceLeDiff, Nat.reduceAdd, Nat.reduceSub, Nat.reduceMul, Nat.reduceDiv, Nat.lt_irrefl, Nat.not_lt_zero, Nat.zero_le, Nat.one_ne_zero, Nat.succ_ne_zero,  lt_def, i32_lit, reduceIte, P_isIn_eq, or_false, false_or, or_true, true_or, and_true, true_and, and_false, false_and, not_true, not_false_eq_true, eq_self, if_true, if_false, not_or, not_and, Nat.not_lt, Nat.not_le, d1, k8, io_lt, n0, n5, io_eq, k6, d6, ix_io, ← hsa, d1a, k7, d7, ← hsb, d1b, io_add]
  have h8 : (ups o.1 8 (io (ln + 1))) 8 = io (ln + 1) := if_pos rfl
  have eI : gI sc = gI s := by rw [hsc, hsb, hsa]; rfl
  have eA : gA sc = gA s := by rw [hsc, hsb, hsa]; rfl
  have eQ : gQ sc = gQ s := by rw [hsc, hsb, hsa]; rfl
  have hsz : sz sc = sz s := by rw [hsc, hsb, hsa]; rfl
  have nm : NM s sc := ⟨Nat.le_of_eq hsz.symm, fun p o2 hp hp2 => by
    rw [gc]
    by_cases e : p = q
    · rw [e, kD] at hp2; cases hp2
    · rw [if_neg e, gb]
      by_cases e2 : p = q + 2
      · rw [e2, a4] at hp2; cases hp2
      · rw [if_neg e2, ga]
        by_cases e3 : p = q + 1
        · rw [e3, a3] at hp2; cases hp2
        · rw [if_neg e3]; exact hp2⟩
  have hus : us (uSil (u r) a b) = us (u r) ++ [(a, b)] := rfl
  have hul : (us (uSil (u r) a b)).length = ln + 1 := by rw [hus, List.length_append, ← hln]; rfl
  have hget : ∀ i (hi : i < (us (uSil (u r) a b)).length), (i = ln ∧ (us (uSil (u r) a b))[i] = (a, b)) ∨ (∃ hi2 : i < (us (u r)).length, i ≠ ln ∧ (us (uSil (u r) a b))[i] = (us (u r))[i]) := fun i hi => by
    rw [hul] at hi
    by_cases e : i = ln
    · left
      refine ⟨e, ?_⟩
      subst e
      simp only [hus]
      rw [List.getElem_append_right (by omega)]
      simp [hln]
    · right
      have hi2 : i < (us (u r)).length := by omega
      refine ⟨hi2, e, ?_⟩
      simp only [hus]
      rw [List.getElem_append_left hi2]
  have hC : RUc sc (ups u r (uSil (u r) a b)) (vR w) := by
    refine C.upd G hr rfl (fun p hp hps => ?_) nm (by rw [eI]) eQ ?_
    · have hp' : p < uq (u r) ∨ uq (u r) + 3 ≤ p := hp
      rw [← hq] at hp'
      rw [gc, if_neg (by omega), gb, if_neg (by omega), ga, if_neg (by omega)]
    · have hxq : uq (uSil (u r) a b) = q := hq.symm
      refine ⟨by rw [hxq, hsz]; exact a1, (ups o.1 8 (io (ln + 1)), o.2), ups g6' ln (io a), ups g7' ln (io b), nq', by rw [hxq, gc, if_pos rfl], by rw [hxq, gc, if_neg (by omega), gb, if_neg (by omega), ga, if_pos rfl], by rw [hxq, gc, if_neg (by omega), gb, if_pos rfl], ?_⟩
      refine ⟨k1, k2, k3, k4, k5, by rw [hul]; exact h8, k9, k10, a13, by rw [hxq]; exact k6, by rw [hxq]; exact k7, TQ.nm nm _ _ _ a16, fun i hi => ?_⟩
      rcases hget i hi with ⟨e, e2⟩ | ⟨hi2, e, e2⟩
      · rw [e2, e]
        exact ⟨if_pos rfl, if_pos rfl⟩
      · rw [e2]
        exact ⟨(if_neg e).trans (a17 i hi2).1, (if_neg e).trans (a17 i hi2).2⟩
  have hcv := H.rule (s' := sc) (r := r) (x := uSil (u r) a b) hr (by rw [hu]; rfl) (by
    rw [← hhh]
    refine ⟨g1, g2, g3, g4, g5, g6, g7, g8, by rw [hul]; omega, fun e he => ?_, g11, g12, g13⟩
    rw [hus] at he
    rcases List.mem_append.mp he with he | he
    · exact g10 e he
    · rw [List.mem_singleton.mp he]; exact ⟨hab, hb⟩) (by
    have h8 := hS r hr
    have hend : uend (u r) h ≤ h := by
      unfold uend
      by_cases e : ud (u r) = 0
      · rw [if_pos e]; exact Nat.le_refl _
      · rw [if_neg e]
        rcases g8 with g8 | g8
        · exact absurd g8 e
        · omega
    rw [← hhh]
    show rcn (vL w) (vm w) (uSil (u r) a b) (uend (u r) h - um (u r)) = (un (u r), ul (u r))
    rw [rcn_congr (x := u r) (y := uSil (u r) a b) rfl _ (fun th l t1 t2 => ?_)]
    · exact h8
    · have hs : silB (us (u r) ++ [(a, b)]) th = silB (us (u r)) th := by
        unfold silB
        rw [List.any_append]
        have : [(a, b)].any (fun e => decide (e.1 ≤ th ∧ th ≤ e.2)) = false := by
          show (decide (a ≤ th ∧ th ≤ b) || false) = false
          rw [Bool.or_false, decide_eq_false_iff_not]
          omega
        rw [this, Bool.or_false]
      show (decide (l = 0 ∨ ur (u r) + (l - 1) < th) && (!silB (us (u r) ++ [(a, b)]) th && _)) = _
      rw [hs]
      rfl) (by rw [hu]; rfl) eI eA (by rw [← hu]; exact hC)
  rw [← hu] at hcv
  refine ⟨sc, ?_, hcv.1, hcv.2⟩
  have hir1 : f_P_isRange F s (io a) (io b) (io (h + 1)) (io 1000) = some (io 1, s) := by
    simp (disch := omega) only [f_P_isRange, Option.bind_some, Nat.reduceEqDiff, Nat.add_zero, Nat.zero_add, Nat.reduceLT, Nat.reduceLeDiff, Nat.reduceAdd, Nat.reduceSub, Nat.reduceMul, Nat.reduceDiv, Nat.lt_irrefl, Nat.not_lt_zero, Nat.zero_le, Nat.one_ne_zero, Nat.succ_ne_zero,  lt_def, i32_lit, reduceIte, P_isIn_eq, or_false, false_or, or_true, true_or, and_true, true_and, and_false, false_and, not_true, not_false_eq_true, eq_self, if_true, if_false, not_or, not_and, Nat.not_lt, Nat.not_le, io_lt, n1, n2, n3, n4, io_eq]
  simp (disch := omega) only [f_P_silence, Option.bind_some, Nat.reduceEqDiff, Nat.add_zero, Nat.zero_add, Nat.reduceLT, Nat.reduceLeDiff, Nat.reduceAdd, Nat.reduceSub, Nat.reduceMul, Nat.reduceDiv, Nat.lt_irrefl, Nat.not_lt_zero, Nat.zero_le, Nat.one_ne_zero, Nat.succ_ne_zero,  lt_def, i32_lit, reduceIte, P_isIn_eq, or_false, false_or, or_true, true_or, and_true, true_and, and_false, false_and, not_true, not_false_eq_true, eq_self, if_true, if_false, not_or, not_and, Nat.not_lt, Nat.not_le, hrt, hne, e2, io_add, hir1, io_eq, d1, k8, io_lt, h5, ead, d1c, h8]
theorem W_silence_x (H : CV s w) {r : Nat} {a b : Int32} (hr : r < vR w) :
    ((a < io (yh (vy w) + 1) ∨ io 1000 < a) ∨ (¬ (a < io (yh (vy w) + 1) ∨ io 1000 < a) ∧ (b < a ∨ io 1000 < b)) → f_P_silence F Z s (io r) a b = xz Z s 0) ∧
    (¬ (a < io (yh (vy w) + 1) ∨ io 1000 < a) → ¬ (b < a ∨ io 1000 < b) → (us (yu (vy w) r)).length = 5 → f_P_silence F Z s (io r) a b = xz Z s 1) := by
  obtain ⟨C, G, hS, -⟩ := H.ru
  obtain ⟨e2, hh⟩ := H.h
  obtain ⟨o, nq, d1, k1, k2, k3, k4, k5, k8, k9, k10, k0, k6, k7, kT, kD⟩ := (C.2 r hr).2.dg
  have hne : ¬ some (uq (yu (vy w) r)) = none := by simp
  refine ⟨fun hbad => ?_, fun n1 n2 h5 => ?_⟩
  · have hrb := isRange_badG (F := F) (s := s) hbad
    simp (disch := omega) only [f_P_silence, Option.bind_some, Nat.reduceEqDiff, Nat.add_zero, Nat.zero_add, Nat.reduceLT, Nat.reduceLeDiff, Nat.reduceAdd, Nat.reduceSub, Nat.reduceMul, Nat.reduceDiv, Nat.lt_irrefl, Nat.not_lt_zero, Nat.zero_le, Nat.one_ne_zero, Nat.succ_ne_zero,  lt_def, i32_lit, reduceIte, P_isIn_eq, or_false, false_or, or_true, true_or, and_true, true_and, and_false, false_and, not_true, not_false_eq_true, eq_self, if_true, if_false, not_or, not_and, Nat.not_lt, Nat.not_le, ruleAt_t C G.1 hr, hne, e2, io_add, hrb, io_eq]
  · rw [h5] at k8
    have hir1 : f_P_isRange F s a b (io (yh (vy w) + 1)) (io 1000) = some (io 1, s) := by
      simp (disch := omega) only [f_P_isRange, Option.bind_some, Nat.reduceEqDiff, Nat.add_zero, Nat.zero_add, Nat.reduceLT, Nat.reduceLeDiff, Nat.reduceAdd, Nat.reduceSub, Nat.reduceMul, Nat.reduceDiv, Nat.lt_irrefl, Nat.not_lt_zero, Nat.zero_le, Nat.one_ne_zero, Nat.succ_ne_zero,  lt_def, i32_lit, reduceIte, P_isIn_eq, or_false, false_or, or_true, true_or, and_true, true_and, and_false, false_and, not_true, not_false_eq_true, eq_self, if_true, if_false, not_or, not_and, Nat.not_lt, Nat.not_le, n1, n2, io_eq]
    simp (disch := omega) only [f_P_silence, Option.bind_some, Nat.reduceEqDiff, Nat.add_zero, Nat.zero_add, Nat.reduceLT, Nat.reduceLeDiff, Nat.reduceAdd, Nat.reduceSub, Nat.reduceMul, Nat.reduceDiv, Nat.lt_irrefl, Nat.not_lt_zero, Nat.zero_le, Nat.one_ne_zero, Nat.succ_ne_zero,  lt_def, i32_lit, reduceIte, P_isIn_eq, or_false, false_or, or_true, true_or, and_true, true_and, and_false, false_and, not_true, not_false_eq_true, eq_self, if_true, if_false, not_or, not_and, Nat.not_lt, Nat.not_le, ruleAt_t C G.1 hr, hne, e2, io_add, hir1, io_eq, d1, k8, io_lt]
end WR
