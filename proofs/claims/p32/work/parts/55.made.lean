/-! a rule is made -/
theorem ALg.rr {a : AG} {h n r c w r' : Nat} (A : ALg a h n r c w) (h1 : r ≤ r') (h2 : r' ≤ 4) : ALg a h n r' c w := ⟨A.1, h2, A.2.2.1, fun i hi => ⟨Nat.lt_of_lt_of_le (A.2.2.2 i hi).1 h1, (A.2.2.2 i hi).2⟩⟩
/-- the new rule -/
def unew (q0 : Nat) (cq : List QT) (pw y v h : Nat) : RU := (q0, cq, pw, y, v, h, 0, [], 0, 0)
def wnew (w : WD) (q0 : Nat) (cq : List QT) (pw y v : Nat) : WD := (yu' (vy w) (ups (yu (vy w)) (vR w) (unew q0 cq pw y v (yh (vy w)))), vL w, vm w, vn w, vR w + 1, vt w, vk w)
section WQ
variable {F Z : Nat} {s : St} {w : WD}
theorem W_addRule_x2 (H : CV s w) {x y v : Int32} (h : ¬ (io 0 ≤ x ∧ x < io (vn w))) : f_P_addRule F Z s x y v = xz Z s 2 := by
  rw [f_P_addRule, W_person H, if_neg h, Option.bind_some]
  show (if (io 0 : Int32) = 0 then (if sz s < Z then some (Sum.inr 2, sz' s (sz s + 1)) else none) else _) = _
  rw [if_pos (show (io 0 : Int32) = 0 from rfl)]
theorem W_addRule_x0 (H : CV s w) {x y v : Int32} (h : io 0 ≤ x ∧ x < io (vn w)) (h2 : (y < io 1 ∨ io 72 < y) ∨ (¬ (y < io 1 ∨ io 72 < y) ∧ (v < io 0 ∨ io 72 < v))) : f_P_addRule F Z s x y v = xz Z s 0 := by
  unfold f_P_addRule
  rw [W_person H, if_pos h]
  rcases h2 with h2 | ⟨h2, h3⟩
  · simp (disch := omega) only [Option.bind_some, Nat.reduceEqDiff, Nat.add_zero, Nat.zero_add, Nat.reduceLT, Nat.reduceLeDiff, Nat.reduceAdd, Nat.reduceSub, Nat.reduceMul, Nat.reduceDiv, Nat.lt_irrefl, Nat.not_lt_zero, Nat.zero_le, Nat.one_ne_zero, Nat.succ_ne_zero,  lt_def, i32_lit, reduceIte, P_isIn_eq, or_false, false_or, or_true, true_or, and_true, true_and, and_false, false_and, not_true, not_false_eq_true, eq_self, if_true, if_false, not_or, not_and, Nat.not_lt, Nat.not_le, h2, io_eq]
  · simp (disch := omega) only [Option.bind_some, Nat.reduceEqDiff, Nat.add_zero, Nat.zero_add, Nat.reduceLT, Nat.reduceLeDiff, Nat.reduceAdd, Nat.reduceSub, Nat.reduceMul, Nat.reduceDiv, Nat.lt_irrefl, Nat.not_lt_zero, Nat.zero_le, Nat.one_ne_zero, Nat.succ_ne_zero,  lt_def, i32_lit, reduceIte, P_isIn_eq, or_false, false_or, or_true, true_or, and_true, true_and, and_false, false_and, not_true, not_false_eq_true, eq_self, if_true, if_false, not_or, not_and, Nat.not_lt, Nat.not_le, h2, h3, io_eq]
theorem W_addRule_x1 (hF : 5000 ≤ F) (H : CV s w) (hZ : sz s + 50 ≤ Z) {pw y v : Nat} (hp : pw < vn w) (hy1 : 1 ≤ y) (hy2 : y ≤ 72) (hv : v ≤ 72) (h : ques (vt w) (vk w) = none ∨ vR w = 4) : ∃ s', f_P_addRule F Z s (io pw) (io y) (io v) = some (.inr 1, s') ∧ CV s' w ∧ KA s s' := by
  have H0 := H
  have hn8 := H.n.2
  have hpp : io 0 ≤ io pw ∧ io pw < io (vn w) := ⟨by rw [io_le (by omega) (by omega)]; omega, by rw [io_lt (by omega) (by omega)]; omega⟩
  have hpe := W_person (F := F) H (io pw)
  rw [if_pos hpp] at hpe
  obtain ⟨⟨c1, c2, c3, c4, c5, c6, c7, c8⟩, g, hn9, T, t2, e1, t4⟩ := H
  have hn := T.1
  obtain ⟨q', s1, a1, a2, a3, a4, a5, a6⟩ := read_eq (F := F) (Z := Z) hF T t2 (by omega)
  have hz1 : sz s1 ≤ Z := by omega
  have hz2 : sz s1 < Z := by omega
  have H1 := (H0.fw a2 (by omega)).ex
  have e4 : gI s1 4 = io (vR w) := (H0.fw a2 (by omega)).1.1.2.2.2.2.2.1.1
  have m1 : ¬ y < 1 := by omega
  have m2 : ¬ 72 < y := by omega
  have m3 : ¬ 72 < v := by omega
  have m0 : ¬ v < 0 := by omega
  refine ⟨_, ?_, H1.1, H1.2.1⟩
  cases hq : ques (vt w) (vk w) with
  | none =>
    have hq' := a5 hq
    subst hq'
    simp (disch := omega) only [f_P_addRule, Option.bind_some, Nat.reduceEqDiff, Nat.add_zero, Nat.zero_add, Nat.reduceLT, Nat.reduceLeDiff, Nat.reduceAdd, Nat.reduceSub, Nat.reduceMul, Nat.reduceDiv, Nat.lt_irrefl, Nat.not_lt_zero, Nat.zero_le, Nat.one_ne_zero, Nat.succ_ne_zero,  lt_def, i32_lit, reduceIte, P_isIn_eq, or_false, false_or, or_true, true_or, and_true, true_and, and_false, false_and, not_true, not_false_eq_true, eq_self, if_true, if_false, not_or, not_and, Nat.not_lt, Nat.not_le, hpe, io_eq, e1, a1, hz1, hz2, io_lt, m1, m2, m3]
  | some cq =>
    obtain ⟨q, rfl, hT⟩ := a6 cq hq
    have hne : ¬ some q = none := by simp
    have h4 : vR w = 4 := h.resolve_left (fun e => by rw [hq] at e; cases e)
    rw [h4] at e4
    simp (disch := omega) only [f_P_addRule, Option.bind_some, Nat.reduceEqDiff, Nat.add_zero, Nat.zero_add, Nat.reduceLT, Nat.reduceLeDiff, Nat.reduceAdd, Nat.reduceSub, Nat.reduceMul, Nat.reduceDiv, Nat.lt_irrefl, Nat.not_lt_zero, Nat.zero_le, Nat.one_ne_zero, Nat.succ_ne_zero,  lt_def, i32_lit, reduceIte, P_isIn_eq, or_false, false_or, or_true, true_or, and_true, true_and, and_false, false_and, not_true, not_false_eq_true, eq_self, if_true, if_false, not_or, not_and, Nat.not_lt, Nat.not_le, hpe, io_eq, e1, a1, hz1, hz2, hne, e4, io_lt, m1, m2, m3]
theorem W_addRule (hF : 5000 ≤ F) (H : CV s w) (hZ : sz s + 50 ≤ Z) {pw y v : Nat} (hp : pw < vn w) (hy1 : 1 ≤ y) (hy2 : y ≤ 72) (hv : v ≤ 72) {cq : List QT} (hq : ques (vt w) (vk w) = some cq) (hR4 : vR w < 4) : ∃ s' q0, f_P_addRule F Z s (io pw) (io y) (io v) = some (.inl (io (vR w)), s') ∧ CV s' (wnew w q0 cq pw y v) ∧ KA s s' := by
  have H0 := H
  have hn8 := H.n.2
  obtain ⟨-, G, hS, -⟩ := H.ru
  have hpp : io 0 ≤ io pw ∧ io pw < io (vn w) := ⟨by rw [io_le (by omega) (by omega)]; omega, by rw [io_lt (by omega) (by omega)]; omega⟩
  have hpe := W_person (F := F) H (io pw)
  rw [if_pos hpp] at hpe
  obtain ⟨⟨c1, c2, c3, c4, c5, C, c7, c8⟩, g, hn9, T, t2, e1, t4⟩ := H
  have hn := T.1
  have hh := g.1
  obtain ⟨q', s1, a1, a2, a3, a4, a5, a6⟩ := read_eq (F := F) (Z := Z) hF T t2 (by omega)
  have f1 := a2.fx
  have hz1 : sz s1 ≤ Z := by omega
  have hz3 : sz s1 < Z := by omega
  obtain ⟨R, hR⟩ : ∃ R, R = vR w := ⟨_, rfl⟩
  obtain ⟨u, hu⟩ : ∃ u, u = yu (vy w) := ⟨_, rfl⟩
  rw [← hR] at hR4
  rw [← hR, ← hu] at G hS C
  have e4 : gI s1 4 = io R := (C.fx f1).1
  obtain ⟨q, rfl, hT⟩ := a6 cq hq
  obtain ⟨o1, o2, -⟩ := ques_ok T hq
  have hne : ¬ some q = none := by simp
  have m1 : ¬ y < 1 := by omega
  have m2 : ¬ 72 < y := by omega
  have m3 : ¬ 72 < v := by omega
  have n0 : ¬ R < 0 := by omega
  obtain ⟨s5, hs5⟩ : ∃ s5, s5 = sN s1 (.inl (6, fun _ => io 0, fun _ => none, fun _ => 0)) := ⟨_, rfl⟩
  obtain ⟨f5, g5, z5, i5⟩ := gN hs5
  obtain ⟨s6, o, e6, i6, z6, g6, g7, g8, g9, k1, k2, k3, k4, k5, k8, k9, k10, k0, k6, k7⟩ := rule_init (F := F) g5 z5 (some q) (io pw) (io y) (io v) (gI s5 2)
  have e2 : gI s5 2 = io (yh (vy w)) := by rw [i5.1, f1.1 2 (by decide)]; exact c1
  have e46 : gI s6 4 = io R := by rw [i6.1, i5.1]; exact e4
  have hz6a : sz s5 + 2 ≤ sz s6 := by omega
  have hz6b : sz s6 ≤ Z := by omega
  obtain ⟨s9, hs9⟩ : ∃ s9, s9 = sI (sQ s6 2 R (some (sz s1))) 4 (io (R + 1)) := ⟨_, rfl⟩
  have e49 : gI s9 4 = io (R + 1) := by rw [hs9, gI_sI, if_pos rfl]
  have hcl : f_P_addRule F Z s (io pw) (io y) (io v) = some (.inl (io R), s9) := by
    simp (disch := omega) only [f_P_addRule, Option.bind_some, Nat.reduceEqDiff, Nat.add_zero, Nat.zero_add, Nat.reduceLT, Nat.reduceLeDiff, Nat.reduceAdd, Nat.reduceSub, Nat.reduceMul, Nat.reduceDiv, Nat.lt_irrefl, Nat.not_lt_zero, Nat.zero_le, Nat.one_ne_zero, Nat.succ_ne_zero,  lt_def, i32_lit, reduceIte, P_isIn_eq, or_false, false_or, or_true, true_or, and_true, true_and, and_false, false_and, not_true, not_false_eq_true, eq_self, if_true, if_false, not_or, not_and, Nat.not_lt, Nat.not_le, hpe, io_eq, e1, a1, hz1, hz3, hne, e4, io_lt, m1, m2, m3, n0, hR4, ← hs5, dgo_at g5, e6, hz6a, hz6b, dgo_at g6, ix_io, gI_sQ, e46, io_add, ← hs9, e49, io_sub, Nat.add_sub_cancel]
  have eI9 : ∀ k, k ≠ 4 → gI s9 k = gI s1 k := fun k hk => by rw [hs9, gI_sI, if_neg hk, gI_sQ, i6.1, i5.1]
  have eA9 : gA s9 = gA s1 := by rw [hs9, gA_sI, gA_sQ, i6.2.1, i5.2.1]
  have eQ9 : ∀ k, gQ s9 2 k = if k = R then some (sz s1) else gQ s 2 k := fun k => by
    rw [hs9, gQ_sI, gQ_sQ, if_pos rfl, i6.2.2.2, i5.2.2.2, f1.2.2.1]
  have eD9 : gD s9 = gD s6 := by rw [hs9, gD_sI, gD_sQ]
  have eS9 : sz s9 = sz s1 + 3 := by rw [hs9, sz_sI, sz_sQ]; exact z6
  have fy1 : FY [4] [] s1 s9 := ⟨fun k hk => eI9 k (fun e => hk (by rw [e]; decide)), fun k _ => by show gA s9 k = _; rw [eA9], rfl, rfl, by show sz s1 ≤ sz s9; omega⟩
  have fy : FY [4, 1537, 1538] [] s s9 := by
    refine ⟨fun k hk => ?_, fun k hk => ?_, rfl, rfl, ?_⟩
    · show gI s9 k = gI s k
      rw [eI9 k (fun e => hk (by rw [e]; decide)), f1.1 k (fun e => hk ((show ∀ x ∈ [1537, 1538], x ∈ [4, 1537, 1538] by decide) k e))]
    · show gA s9 k = gA s k
      rw [eA9, f1.2.1 k (by simp)]
    · show sz s ≤ sz s9
      have := a2.de.1
      omega
  have de1 : DE s1 s9 := ⟨by omega, fun p hp => by rw [eD9, g9 p hp, f5 p (by omega)]⟩
  have de : DE s s9 := f1.2.2.2.trans de1
  obtain ⟨xx, hxx⟩ : ∃ xx : RU, xx = unew (sz s1) cq pw y v (yh (vy w)) := ⟨_, rfl⟩
  have hx : ∀ r, r < R → ups u R xx r = u r := fun r hr => if_neg (by omega)
  have hxR : ups u R xx R = xx := if_pos rfl
  have hpu := fun r hr => (C.2 r hr).2.1
  have hC : RUc s9 (ups u R xx) (R + 1) := by
    refine ⟨e49, fun r hr => ?_⟩
    rcases (by omega : r = R ∨ r < R) with rfl | hr
    · rw [hxR, eQ9, if_pos rfl, hxx]
      refine ⟨rfl, show sz s1 + 2 < sz s9 by omega, o, _, _, q, by rw [eD9]; exact g6, by rw [eD9]; exact g7, by rw [eD9]; exact g8, ?_⟩
      refine ⟨k1, k2, k3, k4.trans e2, k5, k8, k9, k10, k0, k6, k7, (TQ.nm de1.nm _ _ _ hT).le hn, fun i hi => absurd hi (Nat.not_lt_zero _)⟩
    · rw [hx r hr, eQ9, if_neg (by omega)]
      exact ⟨(C.2 r hr).1, (C.2 r hr).2.de de⟩
  have hG : RUg (ups u R xx) (R + 1) (yh (vy w)) (vn w) := by
    refine ⟨by omega, fun r hr => ?_, fun r r' h1 h2 => ?_⟩
    · rcases (by omega : r = R ∨ r < R) with rfl | hr
      · rw [hxR, hxx]
        exact ⟨o1, show cq.length ≤ 40 by omega, hp, hy1, hy2, hv, Nat.le_refl _, Or.inl rfl, Nat.zero_le _, (fun e he => by cases he), ⟨fun _ => rfl, fun _ => rfl⟩, Nat.zero_le _, Nat.zero_le _⟩
      · rw [hx r hr]; exact G.2.1 r hr
    · rcases (by omega : r' = R ∨ r' < R) with rfl | hr
      · rw [hxR, hx r (by omega), hxx]
        have hq1 := hpu r (by omega)
        have hq2 := a2.de.1
        show uq (u r) + 3 ≤ sz s1
        omega
      · rw [hx r (by omega), hx r' hr]; exact G.2.2 r r' h1 hr
  have hH : HS (vL w) (vm w) (ups u R xx) (R + 1) (yh (vy w)) := by
    intro r hr
    rcases (by omega : r = R ∨ r < R) with rfl | hr
    · rw [hxR, hxx]
      show rcn (vL w) (vm w) (sz s1, cq, pw, y, v, yh (vy w), 0, [], 0, 0) (yh (vy w) - yh (vy w)) = (0, 0)
      rw [Nat.sub_self]; rfl
    · rw [hx r hr]; exact hS r hr
  have hU : csum (ups u R xx) (R + 1) = csum u R := by
    show csum (ups u R xx) R + un (ups u R xx R) = csum u R
    have hcs : ∀ k, k ≤ R → csum (ups u R xx) k = csum u k := by
      intro k
      induction k with
      | zero => intro _; rfl
      | succ k ih =>
        intro hk
        show csum (ups u R xx) k + un (ups u R xx k) = csum u k + un (u k)
        rw [ih (by omega), hx k (by omega)]
    rw [hxR, hcs R (Nat.le_refl _), hxx]; rfl
  have lI : ∀ {k}, k ≠ 4 → k ≠ 1537 → k ≠ 1538 → gI s9 k = gI s k := fun {k} h1 h2 h3 => fy.1 k (by simp [h1, h2, h3])
  obtain ⟨v1, T1⟩ := c8
  obtain ⟨v2, T2⟩ := t4
  obtain ⟨g1, g2, g3, g4, g5', g6', g7', g8', g9'⟩ := g
  rw [← hR] at g4
  rw [← hR, ← hu] at g8'
  refine ⟨s9, sz s1, by rw [← hR]; exact hcl, ?_, KA.fy fy⟩
  show CV s9 (yu' (vy w) (ups (yu (vy w)) (vR w) (unew (sz s1) cq pw y v (yh (vy w)))), vL w, vm w, vn w, vR w + 1, vt w, vk w)
  rw [← hu, ← hR, ← hxx]
  refine ⟨⟨(lI (by decide) (by decide) (by decide)).trans c1, c2.fy fy, c3.fy fy, c4.fy fy, c5.fy fy, hC, c7.fy fy, ⟨v1, T1.fy fy⟩⟩, ⟨g1, g2, g3, g4.rr (Nat.le_succ _) (show R + 1 ≤ 4 by omega), g5', hG, hH, g8'.trans hU.symm, g9'⟩, hn9, T, fun k hk => ?_, (lI (by decide) (by decide) (by decide)).trans e1, ⟨v2, T2.fy fy⟩⟩
  rw [eA9, f1.2.1 1 (by simp)]
  exact t2 k hk
end WQ
