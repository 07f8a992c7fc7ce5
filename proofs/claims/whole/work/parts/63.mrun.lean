/-! the model runs a slot's program: aggregates, the whole -/
theorem and64_io {n : Nat} : (io n &&& io 64 = io 0) = (n / 64 % 2 = 0) := by
  rw [io_and, io_eq (Nat.lt_of_le_of_lt Nat.and_le_right (by decide)) (by decide), and64]
def chM (L : Nat → LR) (a b t : Nat) (ch : Option (List CT)) (k : Nat) : Bool := inW L a b t k && chB ch (rec1 (L k))
theorem isChosen_eq {F h m k p a0 b t its : Nat} {x : Int32} {s : St} {L : Nat → LR} {a : List PR} {kk f : Nat} {ch : Option (List CT)} (hF : 5000 ≤ F) (M : LGm s L m) (G : LGg L m h) (hh : h ≤ 1000) (hk : k < m) (hp : p ≤ 4) (hb : b ≤ 1000) (ht : h ≤ t) (e4 : gI s 2524 = x) (e5 : gI s 2525 = io b) (hx : ∀ r, r ≤ 1000 → (io r < x) = (r < a0)) (R : row s 44 45 (64 * p) a) (ha : a.length ≤ 40) (hok : ∀ c, ch = some c → okC c ∧ c.length ≤ 40)
    (hI : its < 2147483648) (hM : (ch = none ∧ its / 64 % 2 = 0) ∨ ∃ cc pre ps, ch = some cc ∧ its / 64 % 2 = 1 ∧ its / 128 % 128 = pre.length ∧ its / 16384 = pre.length + cc.length ∧ a = pre ++ cc.map askE ++ ps) :
    ∃ s', f_M_isChosen F s (io p) (io its) (io k) = some (if chM L a0 b t ch k then io 1 else io 0, s') ∧ FrH s s' := by
  have hm := G.1
  obtain ⟨c1, c2, c3, c4⟩ := M.2 k hk
  obtain ⟨g1, g2, g3, g4, g5, g6, g7⟩ := G.2.1 k hk
  have hxr := hx (rH (L k)) (by omega)
  have hin : inW L a0 b t k = decide (a0 ≤ rH (L k) ∧ rH (L k) ≤ b) := by
    unfold inW
    apply decide_eq_decide.mpr
    constructor
    · rintro ⟨h1, h2, -⟩; exact ⟨h1, h2⟩
    · rintro ⟨h1, h2⟩; exact ⟨h1, h2, by omega⟩
  have key : ∀ (bg en : Nat), (∃ s', f_M_holds F s (io p) (io bg) (io en) (io k) = some (if chB ch (rec1 (L k)) = true then io 1 else io 0, s') ∧ FrH s s') → ∃ s', f_M_isChosen_b35 F s (io p) (io k) (io bg) (io en) = some (if chM L a0 b t ch k then io 1 else io 0, s') ∧ FrH s s' := by
    rintro bg en ⟨s', y1, y2⟩
    by_cases hw : a0 ≤ rH (L k) ∧ rH (L k) ≤ b
    · have hw2 : chM L a0 b t ch k = chB ch (rec1 (L k)) := by unfold chM; rw [hin, decide_eq_true hw]; rfl
      have n1 : ¬ rH (L k) < a0 := by omega
      have n2 : ¬ b < rH (L k) := by omega
      refine ⟨s', ?_, y2⟩
      rw [hw2]
      by_cases hc : chB ch (rec1 (L k)) = true
      · rw [if_pos hc] at y1
        simp (disch := omega) only [f_M_isChosen_b35, Option.bind_some, Nat.reduceEqDiff, Nat.add_zero, Nat.zero_add, Nat.reduceLT, Nat.reduceLeDiff, Nat.reduceAdd, Nat.reduceSub, Nat.reduceMul, Nat.reduceDiv, Nat.lt_irrefl, Nat.not_lt_zero, Nat.zero_le, Nat.one_ne_zero, Nat.succ_ne_zero,  lt_def, i32_lit, reduceIte, P_isIn_eq, M_isIn_eq, M_goes_eq, or_false, false_or, or_true, true_or, and_true, true_and, and_false, false_and, not_true, not_false_eq_true, eq_self, if_true, if_false, not_or, not_and, Nat.not_lt, Nat.not_le, ix_io, c4, e4, e5, hxr, io_lt, n1, n2, io_eq, y1, hc]
      · rw [if_neg hc] at y1
        simp (disch := omega) only [f_M_isChosen_b35, Option.bind_some, Nat.reduceEqDiff, Nat.add_zero, Nat.zero_add, Nat.reduceLT, Nat.reduceLeDiff, Nat.reduceAdd, Nat.reduceSub, Nat.reduceMul, Nat.reduceDiv, Nat.lt_irrefl, Nat.not_lt_zero, Nat.zero_le, Nat.one_ne_zero, Nat.succ_ne_zero,  lt_def, i32_lit, reduceIte, P_isIn_eq, M_isIn_eq, M_goes_eq, or_false, false_or, or_true, true_or, and_true, true_and, and_false, false_and, not_true, not_false_eq_true, eq_self, if_true, if_false, not_or, not_and, Nat.not_lt, Nat.not_le, ix_io, c4, e4, e5, hxr, io_lt, n1, n2, io_eq, y1, hc, Bool.false_eq_true]
    · have hw2 : chM L a0 b t ch k = false := by unfold chM; rw [hin, decide_eq_false hw]; rfl
      refine ⟨s, ?_, FrH.rf⟩
      rw [hw2]
      have n3 : rH (L k) < a0 ∨ b < rH (L k) := by omega
      simp (disch := omega) only [f_M_isChosen_b35, Option.bind_some, Nat.reduceEqDiff, Nat.add_zero, Nat.zero_add, Nat.reduceLT, Nat.reduceLeDiff, Nat.reduceAdd, Nat.reduceSub, Nat.reduceMul, Nat.reduceDiv, Nat.lt_irrefl, Nat.not_lt_zero, Nat.zero_le, Nat.one_ne_zero, Nat.succ_ne_zero,  lt_def, i32_lit, reduceIte, P_isIn_eq, M_isIn_eq, M_goes_eq, or_false, false_or, or_true, true_or, and_true, true_and, and_false, false_and, not_true, not_false_eq_true, eq_self, if_true, if_false, not_or, not_and, Nat.not_lt, Nat.not_le, ix_io, c4, e4, e5, hxr, io_lt, n3, Bool.false_eq_true]
  rcases hM with ⟨rfl, h64⟩ | ⟨cc, pre, ps, rfl, h64, hb1, he1, hseg⟩
  · have e0 : f_M_isChosen F s (io p) (io its) (io k) = f_M_isChosen_b35 F s (io p) (io k) (io 0) (io 0) := by
      simp (disch := omega) only [f_M_isChosen, Option.bind_some, Nat.reduceEqDiff, Nat.add_zero, Nat.zero_add, Nat.reduceLT, Nat.reduceLeDiff, Nat.reduceAdd, Nat.reduceSub, Nat.reduceMul, Nat.reduceDiv, Nat.lt_irrefl, Nat.not_lt_zero, Nat.zero_le, Nat.one_ne_zero, Nat.succ_ne_zero,  lt_def, i32_lit, reduceIte, P_isIn_eq, M_isIn_eq, M_goes_eq, or_false, false_or, or_true, true_or, and_true, true_and, and_false, false_and, not_true, not_false_eq_true, eq_self, if_true, if_false, not_or, not_and, Nat.not_lt, Nat.not_le, and64_io, h64]
    rw [e0]
    refine key 0 0 ⟨s, ?_, FrH.rf⟩
    obtain ⟨F', rfl⟩ : ∃ m, F = m + 1 := ⟨F - 1, by omega⟩
    show _ = some (io 1, s)
    simp (disch := omega) only [f_M_holds, f_M_holds_b11, Option.bind_some, Nat.reduceEqDiff, Nat.add_zero, Nat.zero_add, Nat.reduceLT, Nat.reduceLeDiff, Nat.reduceAdd, Nat.reduceSub, Nat.reduceMul, Nat.reduceDiv, Nat.lt_irrefl, Nat.not_lt_zero, Nat.zero_le, Nat.one_ne_zero, Nat.succ_ne_zero,  lt_def, i32_lit, reduceIte, P_isIn_eq, M_isIn_eq, M_goes_eq, or_false, false_or, or_true, true_or, and_true, true_and, and_false, false_and, not_true, not_false_eq_true, eq_self, if_true, if_false, not_or, not_and, Nat.not_lt, Nat.not_le, io_mul, io_add, io_le, Nat.le_refl]
  · have h1 : ¬ its / 64 % 2 = 0 := by omega
    have eb : (io its >>> (io 7 &&& io 31)) &&& io 127 = io (its / 128 % 128) := by
      simp (disch := omega) only [io_and, and31, io_shr, shr7, and127]
    have ee : io its >>> (io 14 &&& io 31) = io (its / 16384) := by
      simp (disch := omega) only [io_and, and31, io_shr, shr14]
    have e0 : f_M_isChosen F s (io p) (io its) (io k) = f_M_isChosen_b35 F s (io p) (io k) (io pre.length) (io (pre.length + cc.length)) := by
      rw [← he1, ← hb1, ← eb, ← ee]
      simp (disch := omega) only [f_M_isChosen, Option.bind_some, Nat.reduceEqDiff, Nat.add_zero, Nat.zero_add, Nat.reduceLT, Nat.reduceLeDiff, Nat.reduceAdd, Nat.reduceSub, Nat.reduceMul, Nat.reduceDiv, Nat.lt_irrefl, Nat.not_lt_zero, Nat.zero_le, Nat.one_ne_zero, Nat.succ_ne_zero,  lt_def, i32_lit, reduceIte, P_isIn_eq, M_isIn_eq, M_goes_eq, or_false, false_or, or_true, true_or, and_true, true_and, and_false, false_and, not_true, not_false_eq_true, eq_self, if_true, if_false, not_or, not_and, Nat.not_lt, Nat.not_le, and64_io, h1]
    rw [e0]
    have hlen := congrArg List.length hseg
    rw [List.length_append, List.length_append, List.length_map] at hlen
    obtain ⟨o1, o2⟩ := hok cc rfl
    have hee : pre.length + cc.length ≤ 63 := by omega
    obtain ⟨s', y1, y2⟩ := holdsM (F := F) (p := p) (ee := pre.length + cc.length) M G hh hk hp hee cc F pre.length s [] (SEG.of R hseg) rfl o1.1 (o1.2 0) (by show 0 + cc.length ≤ 60; omega) (by omega) FrH.rf trivial
    refine key _ _ ⟨s', ?_, y2⟩
    have y1' : f_M_holds_b11 F F s (io p) (io (pre.length + cc.length)) (io k) (io 0) (io (64 * p + pre.length)) = some (if chB (some cc) (rec1 (L k)) = true then io 1 else io 0, s') := y1
    simp (disch := omega) only [f_M_holds, Option.bind_some, Nat.reduceEqDiff, Nat.add_zero, Nat.zero_add, Nat.reduceLT, Nat.reduceLeDiff, Nat.reduceAdd, Nat.reduceSub, Nat.reduceMul, Nat.reduceDiv, Nat.lt_irrefl, Nat.not_lt_zero, Nat.zero_le, Nat.one_ne_zero, Nat.succ_ne_zero,  lt_def, i32_lit, reduceIte, P_isIn_eq, M_isIn_eq, M_goes_eq, or_false, false_or, or_true, true_or, and_true, true_and, and_false, false_and, not_true, not_false_eq_true, eq_self, if_true, if_false, not_or, not_and, Nat.not_lt, Nat.not_le, io_mul, io_add]
    exact y1'
theorem ksg_kx {k : Nat} (h : agc k = true) : ksg (kxM k) = k := by
  unfold agc at h
  have := of_decide_eq_true h
  rcases this with rfl | rfl | rfl | rfl | rfl | rfl <;> rfl
theorem ev_VS {L : Nat → LR} {m a b t : Nat} {ch : Option (List CT)} {f : Rec → Int32} : VS (chM L a b t ch) (fun j => f (rec1 (L j))) m = ((ev L (pks L m a b t)).filter (chB ch)).map f := by
  unfold VS ev pks
  rw [List.filter_map, List.map_map, List.filter_filter]
  have : List.filter (chM L a b t ch) (List.range m) = List.filter (fun k => (chB ch ∘ fun k => rec1 (L k)) k && inW L a b t k) (List.range m) := List.filter_congr (fun k _ => by
    unfold chM
    rw [Bool.and_comm]; rfl)
  rw [this]
  rfl
theorem tld_0 {ch : Nat → Bool} {val : Nat → Int32} {m w : Nat} (hw : w ≤ 5) : tld ch val m w 0 = 0 ∧ mst ch val m w 0 = 0 := by
  rcases (by omega : w = 0 ∨ w = 1 ∨ w = 2 ∨ w = 3 ∨ w = 4 ∨ w = 5) with rfl | rfl | rfl | rfl | rfl | rfl <;> exact ⟨rfl, rfl⟩
theorem agg_eq {F h m p a0 b t its : Nat} {x : Int32} {s : St} {L : Nat → LR} {a : List PR} {k f : Nat} {ch : Option (List CT)} (hF : 5000 ≤ F) (M : LGm s L m) (G : LGg L m h) (hh : h ≤ 1000) (hp : p ≤ 4) (hb : b ≤ 1000) (ht : h ≤ t) (e4 : gI s 2524 = x) (e5 : gI s 2525 = io b) (hx : ∀ r, r ≤ 1000 → (io r < x) = (r < a0)) (R : row s 44 45 (64 * p) a) (ha : a.length ≤ 40)
    (hk : agc k = true) (hf : (k = 110 ∧ f = 0) ∨ (k ≠ 110 ∧ fdc f = true)) (hok : ∀ c, ch = some c → okC c ∧ c.length ≤ 40) (hX : MCx a (k, f, ch) (3, its)) :
    ∃ s', f_M_aggregate F s (io p) (io its) = some (aggv (ev L (pks L m a0 b t)) k f ch, s') ∧ FrH s s' := by
  have hm := G.1
  obtain ⟨hI, hk8, hf8, hM⟩ : its < 2147483648 ∧ its % 8 = kxM k ∧ its / 8 % 8 = fkM (k, f, ch) ∧ ((ch = none ∧ its / 64 % 2 = 0) ∨ ∃ cc pre ps, ch = some cc ∧ its / 64 % 2 = 1 ∧ its / 128 % 128 = pre.length ∧ its / 16384 = pre.length + cc.length ∧ a = pre ++ cc.map askE ++ ps) := by
    rcases hX with h | h | h | ⟨h1, h2, h3, h4, h5, h6⟩
    · have h1 : k = 35 := h.1
      rw [h1] at hk; exact absurd hk (by decide)
    · have h1 : k = 126 := h.1
      rw [h1] at hk; exact absurd hk (by decide)
    · have h1 : qop k := h.1
      unfold agc at hk; have := of_decide_eq_true hk; unfold qop at h1; omega
    · exact ⟨h3, h4, h5, h6⟩
  have hkx := kxM_le k
  have ek : io its &&& io 7 = io (kxM k) := by rw [io_and, and7, hk8]
  have ew : (io its >>> (io 3 &&& io 31)) &&& io 7 = io (fkM (k, f, ch)) := by
    simp (disch := omega) only [io_and, and31, io_shr, shr3, and7, hf8]
  have hff : ∃ f', fdc f' = true ∧ fxM f' = fkM (k, f, ch) ∧ (k ≠ 110 → f' = f) := by
    rcases hf with ⟨x1, x2⟩ | ⟨x1, x2⟩
    · exact ⟨112, rfl, by unfold fkM; rw [if_pos x1]; rfl, fun h => absurd x1 h⟩
    · exact ⟨f, x2, by unfold fkM; rw [if_neg x1], fun _ => rfl⟩
  obtain ⟨f', f1, f2, f3⟩ := hff
  obtain ⟨t1, t2⟩ := tld_0 (ch := chM L a0 b t ch) (val := fun j => fld f' (rec1 (L j))) (m := m) hkx
  obtain ⟨s', y1, y2, y3⟩ := agg_loop (F := F) hF (s0 := s) (ch := chM L a0 b t ch) (val := fun j => fld f' (rec1 (L j))) (pg := io p) (its := io its) (wh := fkM (k, f, ch)) (w := kxM k) ew hkx hm M.1
    (fun s1 g j hj => by
      obtain ⟨s', z1, z2, z3⟩ := isChosen_eq (F := F) (k := j) (p := p) (a0 := a0) (b := b) (t := t) (kk := k) (f := f) (ch := ch) hF (M.fr g) G hh hj hp hb ht (by rw [g.gi 2524 (by decide)]; exact e4) (by rw [g.gi 2525 (by decide)]; exact e5) hx (by unfold row; rw [g.ga 44 (by decide), g.ga 45 (by decide)]; exact R) ha hok hI hM
      exact ⟨s', z1, z2, z3⟩)
    (fun s1 g j hj => by rw [← f2]; exact fieldIn_eq (M.fr g) G hh hj f1) (fun j hj => fld_ok G hj) m F 0 s (by omega) (by omega) Fr.rf
  refine ⟨s', ?_, y2, y3⟩
  rw [tld_end hkx, ksg_kx hk, ev_VS (m := m), t1, t2] at y1
  have hres : vag k (((ev L (pks L m a0 b t)).filter (chB ch)).map (fld f')) = aggv (ev L (pks L m a0 b t)) k f ch := by
    unfold aggv
    by_cases h110 : k = 110
    · subst h110
      have hv : ∀ vs, vag 110 vs = (io vs.length).toInt64 := fun vs => rfl
      rw [hv, hv, List.length_map, List.length_map]
    · rw [f3 h110]
  rw [hres] at y1
  have y1' : f_M_aggregate_b25 F F s (io p) (io its) (io (kxM k)) (io (fkM (k, f, ch))) 0 (io 0) (io 0) (io 0) = some (aggv (ev L (pks L m a0 b t)) k f ch, s') := y1
  simp (disch := omega) only [f_M_aggregate, Option.bind_some, Nat.reduceEqDiff, Nat.add_zero, Nat.zero_add, Nat.reduceLT, Nat.reduceLeDiff, Nat.reduceAdd, Nat.reduceSub, Nat.reduceMul, Nat.reduceDiv, Nat.lt_irrefl, Nat.not_lt_zero, Nat.zero_le, Nat.one_ne_zero, Nat.succ_ne_zero,  lt_def, i32_lit, reduceIte, P_isIn_eq, M_isIn_eq, M_goes_eq, or_false, false_or, or_true, true_or, and_true, true_and, and_false, false_and, not_true, not_false_eq_true, eq_self, if_true, if_false, not_or, not_and, Nat.not_lt, Nat.not_le, ek, ew]
  exact y1'
theorem reck_eq {F sg : Nat} {s : St} {x y : Int64} (h : qop sg) : f_M_reckoned F s (io sg) x y = some (cmb sg x y, s) := by
  have hlt : sg < 1000 := by unfold qop at h; omega
  have hr := rank_eq (F := F) (s := s) hlt
  by_cases hc : cmc sg = true
  · have e1 : rkM sg = 1 := by rw [rkM_cmc]; exact hc
    have ha := areSo_eq (F := F) (s := s) (x := x) (y := y) hc
    have hcm : cmb sg x y = b64 (cmpv sg x y) := by
      have h' : sg = 60 ∨ sg = 62 ∨ sg = 61 := of_decide_eq_true hc
      unfold cmb
      rw [if_neg (by omega), if_neg (by omega), if_neg (by omega), if_neg (by omega)]
    rw [hcm]
    rw [e1] at hr
    cases hb : cmpv sg x y with
    | true =>
      rw [hb] at ha
      have ha' : f_M_areSo F s x (io sg) y = some (io 1, s) := ha
      simp (disch := omega) only [f_M_reckoned, Option.bind_some, Nat.reduceEqDiff, Nat.add_zero, Nat.zero_add, Nat.reduceLT, Nat.reduceLeDiff, Nat.reduceAdd, Nat.reduceSub, Nat.reduceMul, Nat.reduceDiv, Nat.lt_irrefl, Nat.not_lt_zero, Nat.zero_le, Nat.one_ne_zero, Nat.succ_ne_zero,  lt_def, i32_lit, reduceIte, P_isIn_eq, M_isIn_eq, M_goes_eq, or_false, false_or, or_true, true_or, and_true, true_and, and_false, false_and, not_true, not_false_eq_true, eq_self, if_true, if_false, not_or, not_and, Nat.not_lt, Nat.not_le, hr, ha', io_eq]
      rfl
    | false =>
      rw [hb] at ha
      have ha' : f_M_areSo F s x (io sg) y = some (io 0, s) := ha
      simp (disch := omega) only [f_M_reckoned, Option.bind_some, Nat.reduceEqDiff, Nat.add_zero, Nat.zero_add, Nat.reduceLT, Nat.reduceLeDiff, Nat.reduceAdd, Nat.reduceSub, Nat.reduceMul, Nat.reduceDiv, Nat.lt_irrefl, Nat.not_lt_zero, Nat.zero_le, Nat.one_ne_zero, Nat.succ_ne_zero,  lt_def, i32_lit, reduceIte, P_isIn_eq, M_isIn_eq, M_goes_eq, or_false, false_or, or_true, true_or, and_true, true_and, and_false, false_and, not_true, not_false_eq_true, eq_self, if_true, if_false, not_or, not_and, Nat.not_lt, Nat.not_le, hr, ha', io_eq]
      rfl
  · have hc' : ¬ (sg = 60 ∨ sg = 62 ∨ sg = 61) := fun h9 => hc (decide_eq_true h9)
    have h4 : sg = 42 ∨ sg = 43 ∨ sg = 45 ∨ sg = 47 := by unfold qop at h; omega
    unfold cmb
    rcases h4 with rfl | rfl | rfl | rfl
    · have hr' : f_M_rank F s (io 42) = some (io 3, s) := hr
      simp (disch := omega) only [f_M_reckoned, Option.bind_some, Nat.reduceEqDiff, Nat.add_zero, Nat.zero_add, Nat.reduceLT, Nat.reduceLeDiff, Nat.reduceAdd, Nat.reduceSub, Nat.reduceMul, Nat.reduceDiv, Nat.lt_irrefl, Nat.not_lt_zero, Nat.zero_le, Nat.one_ne_zero, Nat.succ_ne_zero,  lt_def, i32_lit, reduceIte, P_isIn_eq, M_isIn_eq, M_goes_eq, or_false, false_or, or_true, true_or, and_true, true_and, and_false, false_and, not_true, not_false_eq_true, eq_self, if_true, if_false, not_or, not_and, Nat.not_lt, Nat.not_le, hr', io_eq]
    · have hr' : f_M_rank F s (io 43) = some (io 2, s) := hr
      simp (disch := omega) only [f_M_reckoned, Option.bind_some, Nat.reduceEqDiff, Nat.add_zero, Nat.zero_add, Nat.reduceLT, Nat.reduceLeDiff, Nat.reduceAdd, Nat.reduceSub, Nat.reduceMul, Nat.reduceDiv, Nat.lt_irrefl, Nat.not_lt_zero, Nat.zero_le, Nat.one_ne_zero, Nat.succ_ne_zero,  lt_def, i32_lit, reduceIte, P_isIn_eq, M_isIn_eq, M_goes_eq, or_false, false_or, or_true, true_or, and_true, true_and, and_false, false_and, not_true, not_false_eq_true, eq_self, if_true, if_false, not_or, not_and, Nat.not_lt, Nat.not_le, hr', io_eq]
    · have hr' : f_M_rank F s (io 45) = some (io 2, s) := hr
      simp (disch := omega) only [f_M_reckoned, Option.bind_some, Nat.reduceEqDiff, Nat.add_zero, Nat.zero_add, Nat.reduceLT, Nat.reduceLeDiff, Nat.reduceAdd, Nat.reduceSub, Nat.reduceMul, Nat.reduceDiv, Nat.lt_irrefl, Nat.not_lt_zero, Nat.zero_le, Nat.one_ne_zero, Nat.succ_ne_zero,  lt_def, i32_lit, reduceIte, P_isIn_eq, M_isIn_eq, M_goes_eq, or_false, false_or, or_true, true_or, and_true, true_and, and_false, false_and, not_true, not_false_eq_true, eq_self, if_true, if_false, not_or, not_and, Nat.not_lt, Nat.not_le, hr', io_eq]
    · have hr' : f_M_rank F s (io 47) = some (io 3, s) := hr
      by_cases h0 : y = 0
      · simp (disch := omega) only [f_M_reckoned, Option.bind_some, Nat.reduceEqDiff, Nat.add_zero, Nat.zero_add, Nat.reduceLT, Nat.reduceLeDiff, Nat.reduceAdd, Nat.reduceSub, Nat.reduceMul, Nat.reduceDiv, Nat.lt_irrefl, Nat.not_lt_zero, Nat.zero_le, Nat.one_ne_zero, Nat.succ_ne_zero,  lt_def, i32_lit, reduceIte, P_isIn_eq, M_isIn_eq, M_goes_eq, or_false, false_or, or_true, true_or, and_true, true_and, and_false, false_and, not_true, not_false_eq_true, eq_self, if_true, if_false, not_or, not_and, Nat.not_lt, Nat.not_le, hr', io_eq, h0]
      · simp (disch := omega) only [f_M_reckoned, Option.bind_some, Nat.reduceEqDiff, Nat.add_zero, Nat.zero_add, Nat.reduceLT, Nat.reduceLeDiff, Nat.reduceAdd, Nat.reduceSub, Nat.reduceMul, Nat.reduceDiv, Nat.lt_irrefl, Nat.not_lt_zero, Nat.zero_le, Nat.one_ne_zero, Nat.succ_ne_zero,  lt_def, i32_lit, reduceIte, P_isIn_eq, M_isIn_eq, M_goes_eq, or_false, false_or, or_true, true_or, and_true, true_and, and_false, false_and, not_true, not_false_eq_true, eq_self, if_true, if_false, not_or, not_and, Nat.not_lt, Nat.not_le, hr', io_eq, h0]
def MS (s : St) (st : List Int64) : Prop := gI s 2522 = io st.length ∧ stkJ (gJ s 50) st
def FrR (s s' : St) : Prop := Fr [2522] [51] s s' ∧ ∀ k, k ≠ 50 → gJ s' k = gJ s k
theorem FrR.rf {s : St} : FrR s s := ⟨Fr.rf, fun _ _ => rfl⟩
theorem FrR.trans {s s1 s2 : St} (h : FrR s s1) (h2 : FrR s1 s2) : FrR s s2 := ⟨h.1.trans h2.1, fun k hk => (h2.2 k hk).trans (h.2 k hk)⟩
theorem FrH.r {s s' : St} (h : FrH s s') : FrR s s' := ⟨h.1.wide (by decide) (by decide), fun _ _ => by rw [h.2]⟩
theorem FrR.J {s s1 : St} (h : FrR s s1) {i : Nat} {x : Int64} : FrR s (sJ s1 50 i x) := ⟨h.1.J, fun k hk => by
  funext j
  rw [gJ_sJ, if_neg hk]
  exact congrFun (h.2 k hk) j⟩
theorem FrR.I {s s1 : St} (h : FrR s s1) {x : Int32} : FrR s (sI s1 2522 x) := ⟨h.1.I (by decide), h.2⟩
theorem stkJ_push {s : St} {st : List Int64} {x : Int64} (h : stkJ (gJ s 50) st) : stkJ (gJ (sJ s 50 st.length x) 50) (x :: st) := by
  refine ⟨?_, stkJ_ext _ (fun i hi => ?_) h⟩
  · rw [gJ_sJ, if_pos rfl, if_pos rfl]
  · rw [gJ_sJ, if_pos rfl, if_neg (by omega)]
theorem runM {F h m p a0 b t N : Nat} {x0 : Int32} {s0 : St} {L : Nat → LR} {a : List PR} (hF : 5000 ≤ F) (M : LGm s0 L m) (G : LGg L m h) (hh : h ≤ 1000) (hp : p ≤ 4) (hb : b ≤ 1000) (ht : h ≤ t) (e4 : gI s0 2524 = x0) (e5 : gI s0 2525 = io b) (hx : ∀ r, r ≤ 1000 → (io r < x0) = (r < a0)) (R : row s0 44 45 (64 * p) a) (ha : a.length ≤ 40) (eN : gA s0 43 p = io N) (hN : N ≤ 60) :
    ∀ (c : List QT) (e : List PR) (fu q : Nat) (s : St) (st : List Int64), (∀ i (h : i < e.length), gA s0 41 (64 * p + (q + i)) = io e[i].1 ∧ gA s0 42 (64 * p + (q + i)) = io e[i].2) → MCs a c e → q + e.length = N → (∀ x ∈ c, tvQ x) → depQ c st.length = some 1 → st.length + c.length ≤ 60 → c.length < fu → FrR s0 s → MS s st →
    ∃ s', f_M_runs_b21 F fu s (io p) (io (64 * p + q)) = some ((runQ (ev L (pks L m a0 b t)) c st).headD 0, s') ∧ FrR s0 s' := by
  intro c
  induction c with
  | nil =>
    intro e fu q s st C hMC hq hv hd hsz hfu f S
    obtain ⟨fu, rfl⟩ : ∃ f', fu = f' + 1 := ⟨fu - 1, by omega⟩
    have he : e = [] := by cases e with
      | nil => rfl
      | cons y e => exact hMC.elim
    subst he
    have hq' : q = N := hq
    have hd' : some st.length = some 1 := hd
    obtain ⟨x, rfl⟩ : ∃ x, st = [x] := by
      cases st with
      | nil => cases hd'
      | cons b cs => cases cs with
        | nil => exact ⟨b, rfl⟩
        | cons x y =>
          have h9 := Option.some.inj hd'
          have h9' : y.length + 1 + 1 = 1 := h9
          omega
    refine ⟨s, ?_, f⟩
    have e43 : gA s 43 p = io N := by rw [f.1.ga 43 (by decide)]; exact eN
    have e0 : gJ s 50 0 = x := S.2.1
    have hle : 64 * p + N ≤ 64 * p + q := by omega
    simp (disch := omega) only [f_M_runs_b21, Option.bind_some, Nat.reduceEqDiff, Nat.add_zero, Nat.zero_add, Nat.reduceLT, Nat.reduceLeDiff, Nat.reduceAdd, Nat.reduceSub, Nat.reduceMul, Nat.reduceDiv, Nat.lt_irrefl, Nat.not_lt_zero, Nat.zero_le, Nat.one_ne_zero, Nat.succ_ne_zero,  lt_def, i32_lit, reduceIte, P_isIn_eq, M_isIn_eq, M_goes_eq, or_false, false_or, or_true, true_or, and_true, true_and, and_false, false_and, not_true, not_false_eq_true, eq_self, if_true, if_false, not_or, not_and, Nat.not_lt, Nat.not_le, ix_io, io_mul, e43, io_add, io_le, hle, e0]
    rfl
  | cons x c ih =>
    intro e fu q s st C hMC hq hv hd hsz hfu f S
    obtain ⟨fu, rfl⟩ : ∃ f', fu = f' + 1 := ⟨fu - 1, by omega⟩
    obtain ⟨y, e, rfl⟩ : ∃ y r, e = y :: r := by
      cases e with
      | nil => exact hMC.elim
      | cons y r => exact ⟨y, r, rfl⟩
    obtain ⟨hX, hMC⟩ := hMC
    have hq' : q + (e.length + 1) = N := hq
    have hsz' : st.length + (c.length + 1) ≤ 60 := hsz
    have hfu' : c.length + 1 < fu + 1 := hfu
    have e43 : gA s 43 p = io N := by rw [f.1.ga 43 (by decide)]; exact eN
    obtain ⟨x1, x2⟩ : gA s 41 (64 * p + q) = io y.1 ∧ gA s 42 (64 * p + q) = io y.2 := by
      rw [f.1.ga 41 (by decide), f.1.ga 42 (by decide)]
      exact C 0 (Nat.succ_pos _)
    have Ct : ∀ i (h : i < e.length), gA s0 41 (64 * p + (q + 1 + i)) = io e[i].1 ∧ gA s0 42 (64 * p + (q + 1 + i)) = io e[i].2 := fun i hi => by
      have := C (i + 1) (by rw [List.length_cons]; omega)
      rw [show q + 1 + i = q + (i + 1) by omega]
      exact this
    have hd' : (dq x st.length).bind (depQ c) = some 1 := hd
    have nle : ¬ 64 * p + N ≤ 64 * p + q := by omega
    obtain ⟨S1, S2⟩ := S
    have go : ∀ (s' : St) (st' : List Int64), stQ (ev L (pks L m a0 b t)) x st = st' → st'.length ≤ st.length + 1 → dq x st.length = some st'.length → FrR s0 s' → MS s' st' → f_M_runs_b21 F (fu + 1) s (io p) (io (64 * p + q)) = f_M_runs_b21 F fu s' (io p) (io (64 * p + (q + 1))) →
        ∃ s', f_M_runs_b21 F (fu + 1) s (io p) (io (64 * p + q)) = some ((runQ (ev L (pks L m a0 b t)) (x :: c) st).headD 0, s') ∧ FrR s0 s' := by
      intro s' st' h2 h3 h4 h5 h6 h9
      rw [h9]
      rw [h4, Option.bind_some] at hd'
      have := ih e fu (q + 1) s' st' Ct hMC (by omega) (fun y hy => hv y (List.mem_cons_of_mem _ hy)) hd' (by omega) (by omega) h5 h6
      have e9 : runQ (ev L (pks L m a0 b t)) (x :: c) st = runQ (ev L (pks L m a0 b t)) c st' := by rw [← h2]; rfl
      rw [e9]
      exact this
    rcases hv x List.mem_cons_self with ⟨v1, v2, v3⟩ | v1 | ⟨v1, v2⟩ | ⟨v1, v2, v3⟩
    · obtain ⟨k, v, ch⟩ := x
      have v1' : k = 35 := v1
      subst v1'
      have hy : y = (1, v) := by
        rcases hX with h9 | h9 | h9 | h9
        · exact h9.2
        · exact absurd (show (35 : Nat) = 126 from h9.1) (by decide)
        · have h8 : qop 35 := h9.1
          unfold qop at h8; omega
        · exact absurd (show agc 35 = true from h9.1) (by decide)
      subst hy
      have x1' : gA s 41 (64 * p + q) = io 1 := x1
      have x2' : gA s 42 (64 * p + q) = io v := x2
      refine go (sI (sJ s 50 st.length (io v).toInt64) 2522 (io (st.length + 1))) ((io v).toInt64 :: st) (by unfold stQ; rw [if_pos rfl]) (Nat.le_refl _) (by unfold dq; rw [if_pos (Or.inl rfl)]; rfl) (f.J.I) ⟨rfl, stkJ_push S2⟩ ?_
      simp (disch := omega) only [f_M_runs_b21, f_M_runs_b58, Option.bind_some, Nat.reduceEqDiff, Nat.add_zero, Nat.zero_add, Nat.reduceLT, Nat.reduceLeDiff, Nat.reduceAdd, Nat.reduceSub, Nat.reduceMul, Nat.reduceDiv, Nat.lt_irrefl, Nat.not_lt_zero, Nat.zero_le, Nat.one_ne_zero, Nat.succ_ne_zero,  lt_def, i32_lit, reduceIte, P_isIn_eq, M_isIn_eq, M_goes_eq, or_false, false_or, or_true, true_or, and_true, true_and, and_false, false_and, not_true, not_false_eq_true, eq_self, if_true, if_false, not_or, not_and, Nat.not_lt, Nat.not_le, ix_io, io_mul, e43, io_add, io_le, nle, x1', x2', S1, gI_sJ]
      rfl
    · subst v1
      have hy : y = (2, 0) := by
        rcases hX with h9 | h9 | h9 | h9
        · exact absurd h9.1 (by decide)
        · exact h9.2
        · have h8 : qop 126 := h9.1
          unfold qop at h8; omega
        · exact absurd h9.1 (by decide)
      subst hy
      have x1' : gA s 41 (64 * p + q) = io 2 := x1
      have h1 : 1 ≤ st.length := by
        rcases Nat.lt_or_ge st.length 1 with h9 | h9
        · have : dq (126, 0, none) st.length = none := by unfold dq; rw [if_neg (by decide), if_pos rfl, if_neg (by omega)]
          rw [this] at hd'; cases hd'
        · exact h9
      obtain ⟨z, st, rfl⟩ : ∃ a r, st = a :: r := by
        cases st with
        | nil => exact absurd h1 (by decide)
        | cons a r => exact ⟨a, r, rfl⟩
      have hsz2 : st.length + 1 + (c.length + 1) ≤ 60 := hsz'
      have S1' : gI s 2522 = io (st.length + 1) := S1
      have ez : gJ s 50 st.length = z := S2.1
      refine go (sJ s 50 st.length (-z)) (-z :: st) rfl (by show st.length + 1 ≤ st.length + 1 + 1; omega) ?_ f.J ⟨S1', stkJ_push S2.2⟩ ?_
      · unfold dq; rw [if_neg (by decide), if_pos rfl, if_pos (by show 1 ≤ st.length + 1; omega)]; rfl
      · simp (disch := omega) only [f_M_runs_b21, Option.bind_some, Nat.reduceEqDiff, Nat.add_zero, Nat.zero_add, Nat.reduceLT, Nat.reduceLeDiff, Nat.reduceAdd, Nat.reduceSub, Nat.reduceMul, Nat.reduceDiv, Nat.lt_irrefl, Nat.not_lt_zero, Nat.zero_le, Nat.one_ne_zero, Nat.succ_ne_zero,  lt_def, i32_lit, reduceIte, P_isIn_eq, M_isIn_eq, M_goes_eq, or_false, false_or, or_true, true_or, and_true, true_and, and_false, false_and, not_true, not_false_eq_true, eq_self, if_true, if_false, not_or, not_and, Nat.not_lt, Nat.not_le, ix_io, io_mul, e43, io_add, io_le, nle, x1', io_eq, S1', io_sub, Nat.add_sub_cancel, ez]
        rfl
    · obtain ⟨sg, r3⟩ := x
      have v1' : qop sg := v1
      have v2' : r3 = (0, none) := v2
      subst v2'
      have nag : ¬ agc sg = true := by unfold agc; rw [decide_eq_true_eq]; unfold qop at v1'; omega
      have n35 : ¬ sg = 35 := by unfold qop at v1'; omega
      have n126 : ¬ sg = 126 := by unfold qop at v1'; omega
      have n1 : ¬ sg = 1 := by unfold qop at v1'; omega
      have n2 : ¬ sg = 2 := by unfold qop at v1'; omega
      have n3 : ¬ sg = 3 := by unfold qop at v1'; omega
      have hlt : sg < 1000 := by unfold qop at v1'; omega
      have hy : y = (sg, 0) := by
        rcases hX with h9 | h9 | h9 | h9
        · exact absurd h9.1 n35
        · exact absurd h9.1 n126
        · exact h9.2
        · exact absurd h9.1 nag
      subst hy
      have x1' : gA s 41 (64 * p + q) = io sg := x1
      have hdn : ∀ e, dq (sg, 0, none) e = if 2 ≤ e then some (e - 1) else none := fun e => by unfold dq; rw [if_neg (fun h => h.elim n35 nag), if_neg n126]
      have h2 : 2 ≤ st.length := by
        rcases Nat.lt_or_ge st.length 2 with h9 | h9
        · rw [hdn, if_neg (by omega)] at hd'; cases hd'
        · exact h9
      obtain ⟨z, w, st, rfl⟩ : ∃ b a r, st = b :: a :: r := by
        cases st with
        | nil => exact absurd h2 (by decide)
        | cons b r =>
          cases r with
          | nil => have h9 : 2 ≤ 1 := h2; omega
          | cons a r => exact ⟨b, a, r, rfl⟩
      have hsz2 : st.length + 1 + 1 + (c.length + 1) ≤ 60 := hsz'
      have S1' : gI s 2522 = io (st.length + 2) := S1
      have ez : gJ s 50 (st.length + 1) = z := S2.1
      have ew : gJ s 50 st.length = w := S2.2.1
      have hrk := reck_eq (F := F) (s := sI s 2522 (io (st.length + 1))) (x := w) (y := z) v1'
      have np : st.length + 2 - 1 = st.length + 1 := by omega
      refine go (sJ (sI s 2522 (io (st.length + 1))) 50 st.length (cmb sg w z)) (cmb sg w z :: st) (by unfold stQ; rw [if_neg n35, if_neg nag, if_neg n126]) (by show st.length + 1 ≤ st.length + 1 + 1 + 1; omega) ?_ (f.I.J) ⟨rfl, stkJ_push (s := sI s 2522 (io (st.length + 1))) S2.2.2⟩ ?_
      · rw [hdn, if_pos (by show 2 ≤ st.length + 1 + 1; omega)]; rfl
      · simp (disch := omega) only [f_M_runs_b21, Option.bind_some, Nat.reduceEqDiff, Nat.add_zero, Nat.zero_add, Nat.reduceLT, Nat.reduceLeDiff, Nat.reduceAdd, Nat.reduceSub, Nat.reduceMul, Nat.reduceDiv, Nat.lt_irrefl, Nat.not_lt_zero, Nat.zero_le, Nat.one_ne_zero, Nat.succ_ne_zero,  lt_def, i32_lit, reduceIte, P_isIn_eq, M_isIn_eq, M_goes_eq, or_false, false_or, or_true, true_or, and_true, true_and, and_false, false_and, not_true, not_false_eq_true, eq_self, if_true, if_false, not_or, not_and, Nat.not_lt, Nat.not_le, ix_io, io_mul, e43, io_add, io_le, nle, x1', io_eq, n1, n2, n3, S1', io_sub, np, gI_sI, Nat.add_sub_cancel, gJ_sI, ez, ew, hrk]
        rfl
    · obtain ⟨k, fi, ch⟩ := x
      have v1' : agc k = true := v1
      have n35 : ¬ k = 35 := fun e => by rw [e] at v1'; exact absurd v1' (by decide)
      have n126 : ¬ k = 126 := fun e => by rw [e] at v1'; exact absurd v1' (by decide)
      obtain ⟨y1, its⟩ := y
      have hy1 : y1 = 3 := by
        rcases hX with h9 | h9 | h9 | h9
        · exact absurd h9.1 n35
        · exact absurd h9.1 n126
        · have h8 : qop k := h9.1
          unfold agc at v1'; have := of_decide_eq_true v1'; unfold qop at h8; omega
        · exact h9.2.1
      subst hy1
      have x1' : gA s 41 (64 * p + q) = io 3 := x1
      have x2' : gA s 42 (64 * p + q) = io its := x2
      obtain ⟨s1, y1, y2⟩ := agg_eq (F := F) (its := its) (s := s) (a0 := a0) (b := b) (t := t) hF (M.fr f.1) G hh hp hb ht (by rw [f.1.gi 2524 (by decide)]; exact e4) (by rw [f.1.gi 2525 (by decide)]; exact e5) hx (by unfold row; rw [f.1.ga 44 (by decide), f.1.ga 45 (by decide)]; exact R) ha v1' v2 v3 hX
      have S1' : gI s1 2522 = io st.length := by rw [y2.1.gi 2522 (by decide)]; exact S1
      have S2' : stkJ (gJ s1 50) st := by rw [y2.2]; exact S2
      refine go (sI (sJ s1 50 st.length (aggv (ev L (pks L m a0 b t)) k fi ch)) 2522 (io (st.length + 1))) (aggv (ev L (pks L m a0 b t)) k fi ch :: st) (by unfold stQ; rw [if_neg n35, if_pos v1']) (Nat.le_refl _) (by unfold dq; rw [if_pos (Or.inr v1')]; rfl) (((f.trans y2.r).J).I) ⟨rfl, stkJ_push S2'⟩ ?_
      simp (disch := omega) only [f_M_runs_b21, f_M_runs_b58, Option.bind_some, Nat.reduceEqDiff, Nat.add_zero, Nat.zero_add, Nat.reduceLT, Nat.reduceLeDiff, Nat.reduceAdd, Nat.reduceSub, Nat.reduceMul, Nat.reduceDiv, Nat.lt_irrefl, Nat.not_lt_zero, Nat.zero_le, Nat.one_ne_zero, Nat.succ_ne_zero,  lt_def, i32_lit, reduceIte, P_isIn_eq, M_isIn_eq, M_goes_eq, or_false, false_or, or_true, true_or, and_true, true_and, and_false, false_and, not_true, not_false_eq_true, eq_self, if_true, if_false, not_or, not_and, Nat.not_lt, Nat.not_le, ix_io, io_mul, e43, io_add, io_le, nle, x1', io_eq, x2', y1, S1, S1', gI_sJ]
      rfl
theorem runs_eq {F h m p a0 b t : Nat} {x0 : Int32} {s : St} {L : Nat → LR} {c : List QT} (hF : 5000 ≤ F) (M : LGm s L m) (G : LGg L m h) (hh : h ≤ 1000) (hp : p ≤ 4) (hb : b ≤ 1000) (ht : h ≤ t) (hx : ∀ r, r ≤ 1000 → (io r < x0) = (r < a0)) (P : PG s p c) (ok : okQ c) (hc : c.length ≤ 40) :
    ∃ s', f_M_runs F s (io p) x0 (io b) = some (valQ (ev L (pks L m a0 b t)) c, s') ∧ Fr [2522, 2524, 2525] [51] s s' ∧ ∀ k, k ≠ 50 → gJ s' k = gJ s k := by
  obtain ⟨e, a, p1, p2, p3, p4, p5⟩ := P
  have hl := p5.len
  have f0 : Fr [2522, 2524, 2525] [51] s (sI (sI (sI s 2524 x0) 2525 (io b)) 2522 (io 0)) := ((Fr.rf.I (by decide)).I (by decide)).I (by decide)
  obtain ⟨s', y1, y2⟩ := runM (F := F) (s0 := sI (sI (sI s 2524 x0) 2525 (io b)) 2522 (io 0)) (a0 := a0) (b := b) (t := t) (N := e.length) hF (M.fr f0) G hh hp hb ht rfl rfl hx p3 p4 p1 (by omega) c e F 0 _ [] (fun i hi => by rw [Nat.zero_add]; exact p2 i hi) p5 (Nat.zero_add _) ok.1 (ok.2 0) (by show 0 + c.length ≤ 60; omega) (by omega) FrR.rf ⟨rfl, trivial⟩
  refine ⟨s', ?_, f0.trans (y2.1.wide (by decide) (by decide)), fun k hk => y2.2 k hk⟩
  have y1' : f_M_runs_b21 F F (sI (sI (sI s 2524 x0) 2525 (io b)) 2522 (io 0)) (io p) (io (64 * p)) = some (valQ (ev L (pks L m a0 b t)) c, s') := y1
  simp (disch := omega) only [f_M_runs, Option.bind_some, Nat.reduceEqDiff, Nat.add_zero, Nat.zero_add, Nat.reduceLT, Nat.reduceLeDiff, Nat.reduceAdd, Nat.reduceSub, Nat.reduceMul, Nat.reduceDiv, Nat.lt_irrefl, Nat.not_lt_zero, Nat.zero_le, Nat.one_ne_zero, Nat.succ_ne_zero,  lt_def, i32_lit, reduceIte, P_isIn_eq, M_isIn_eq, M_goes_eq, or_false, false_or, or_true, true_or, and_true, true_and, and_false, false_and, not_true, not_false_eq_true, eq_self, if_true, if_false, not_or, not_and, Nat.not_lt, Nat.not_le, io_mul]
  exact y1'
