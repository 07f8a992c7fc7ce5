/-! the text, the questions, the hours, the logs, the people: what the calls answer -/
section WT
variable {F Z : Nat} {s : St} {w : WD}
def wtx (w : WD) (t : Nat → Nat) (k : Nat) : WD := (vy w, vL w, vm w, vn w, vR w, t, k)
theorem W_clearText (H : CV s w) : f_P_clearText F s = some (io (vk w), sI s 1 (io 0)) ∧ CV (sI s 1 (io 0)) (wtx w (fun _ => 0) 0) ∧ KA s (sI s 1 (io 0)) ∧ sz (sI s 1 (io 0)) = sz s := by
  obtain ⟨⟨c1, c2, c3, c4, c5, c6, c7, c8⟩, g, hn, t1, t2, t3, t4⟩ := H
  have f : FX [1] [] s (sI s 1 (io 0)) := Fr.fx (Fr.rf.I (by decide))
  have fy := f.swD
  refine ⟨by unfold f_P_clearText; rw [t3]; rfl, ⟨⟨c1, c2.fy fy, c3.fy fy, c4.fy fy, c5.fy fy, c6.fx f, c7.fx f, c8⟩, g, hn, ⟨Nat.zero_le _, fun k hk => absurd hk (Nat.not_lt_zero _), fun k hk => rfl⟩, fun k hk => absurd hk (Nat.not_lt_zero _), rfl, t4⟩, KA.fx f, rfl⟩
theorem W_type (H : CV s w) {c : Nat} (h1 : 32 ≤ c) (h2 : c ≤ 126) (hk : vk w < 40) : ∃ s', f_P_type F Z s (io c) = some (.inl (io (vk w + 1)), s') ∧ CV s' (wtx w (ups (vt w) (vk w) c) (vk w + 1)) ∧ KA s s' ∧ sz s' = sz s := by
  obtain ⟨⟨c1, c2, c3, c4, c5, c6, c7, c8⟩, g, hn, t1, t2, t3, t4⟩ := H
  have f : FX [1] [1] s (sI (sA s 1 (vk w) (io c)) 1 (io (vk w + 1))) := Fr.fx ((Fr.rf.A (by decide)).I (by decide))
  have fy := f.swD
  have n1 : ¬ c < 32 := by omega
  refine ⟨sI (sA s 1 (vk w) (io c)) 1 (io (vk w + 1)), ?_, ⟨⟨c1, c2.fy fy, c3.fy fy, c4.fy fy, c5.fy fy, c6.fx f, c7.fx f, c8⟩, g, hn, ⟨hk, fun k hk9 => ?_, fun k hk9 => ?_⟩, fun k hk9 => ?_, rfl, t4⟩, KA.fx f, rfl⟩
  · simp (disch := omega) only [f_P_type, Option.bind_some, Nat.reduceEqDiff, Nat.add_zero, Nat.zero_add, Nat.reduceLT, Nat.reduceLeDiff, Nat.reduceAdd, Nat.reduceSub, Nat.reduceMul, Nat.reduceDiv, Nat.lt_irrefl, Nat.not_lt_zero, Nat.zero_le, Nat.one_ne_zero, Nat.succ_ne_zero,  lt_def, i32_lit, reduceIte, P_isIn_eq, or_false, false_or, or_true, true_or, and_true, true_and, and_false, false_and, not_true, not_false_eq_true, eq_self, if_true, if_false, not_or, not_and, Nat.not_lt, Nat.not_le, io_lt, io_le, io_eq, io_neg1, io_neg1', neg1_lt, io_le_neg1, io_lt_neg1, io_add, io_mul, io_pred, io_modE, natMod, io_sub, io_div, ix_io, gI_sI, gI_sA, gI_sL, gI_sJ, gI_sR, gI_sQ, gI_sD, gI_sN, gI_sz, gA_sI, gA_sA, gA_sL, gA_sJ, gA_sR, gA_sQ, gA_sD, gA_sN, gA_sz, gL_sI, gL_sA, gL_sL, gL_sJ, gL_sR, gL_sQ, gL_sD, gL_sN, gL_sz, gJ_sI, gJ_sA, gJ_sL, gJ_sJ, gJ_sR, gJ_sQ, gJ_sD, gJ_sN, gJ_sz, gR_sI, gR_sA, gR_sL, gR_sJ, gR_sR, gR_sQ, gR_sD, gR_sN, gR_sz, gQ_sI, gQ_sA, gQ_sL, gQ_sJ, gQ_sR, gQ_sQ, gQ_sD, gQ_sN, gQ_sz, gD_sI, gD_sA, gD_sL, gD_sJ, gD_sR, gD_sQ, gD_sD, gD_sN, gD_sz, sz_sI, sz_sA, sz_sL, sz_sJ, sz_sR, sz_sQ, sz_sD, sz_sN, sz_sz, n1, h2, t3, hk, nar_char (show c < 65536 by omega)]
  · show 32 ≤ ups (vt w) (vk w) c k ∧ ups (vt w) (vk w) c k ≤ 126
    unfold ups
    by_cases e : k = vk w
    · rw [if_pos e]; exact ⟨h1, h2⟩
    · rw [if_neg e]; exact t1.2.1 k (by have : k < vk w + 1 := hk9; omega)
  · show ups (vt w) (vk w) c k = 0
    have hk8 : vk w + 1 ≤ k := hk9
    unfold ups
    rw [if_neg (by omega)]
    exact t1.2.2 k (by omega)
  · show gA (sI (sA s 1 (vk w) (io c)) 1 (io (vk w + 1))) 1 k = io (ups (vt w) (vk w) c k)
    have hk8 : k < vk w + 1 := hk9
    rw [gA_sI, gA_sA, if_pos rfl]
    unfold ups
    by_cases e : k = vk w
    · rw [if_pos e, if_pos e]
    · rw [if_neg e, if_neg e]; exact t2 k (by omega)
theorem W_type_x (H : CV s w) {x : Int32} (h : x < io 32 ∨ io 126 < x) : f_P_type F Z s x = xz Z s 0 := by
  unfold f_P_type
  rcases h with h | h
  · rw [if_pos (show x < 32 from h)]
  · by_cases h1 : x < 32
    · rw [if_pos h1]
    · rw [if_neg h1, if_neg (fun c => by rw [← i32_nlt] at c; exact c h)]
/-- where no question goes on: -1 if it is one -/
def werr (w : WD) : Int32 := match ques (vt w) (vk w) with
  | none => io (perr (vt w))
  | some _ => -io 1
theorem CV.fw {s' : St} (H : CV s w) (f : Fw s s') (hz : sz s' ≤ sz s + 40) : ON s 40 s' w := by
  have fx := f.fx
  obtain ⟨vs, h1⟩ := H.1.2.2.2.2.2.2.2
  obtain ⟨us, h2⟩ := H.2.2.2.2.2.2
  exact ⟨H.fx fx ⟨vs, h1.fx fx⟩ ⟨us, h2.fx fx⟩, KA.fx fx, f.2.2.2.2.2.1, hz⟩
theorem W_errorAt (hF : 5000 ≤ F) (H : CV s w) (hZ : sz s + 40 ≤ Z) : ∃ s', f_P_errorAt F Z s = some (.inl (werr w), s') ∧ ON s 40 s' w := by
  have T := H.2.2.2.1
  have hn := T.1
  obtain ⟨q', s1, a1, a2, a3, a4, a5, a6⟩ := read_eq (F := F) (Z := Z) hF T H.2.2.2.2.1 (by omega)
  have hz : sz s1 ≤ Z := by omega
  have e1 := H.2.2.2.2.2.1
  refine ⟨s1, ?_, H.fw a2 (by omega)⟩
  unfold werr
  cases hq : ques (vt w) (vk w) with
  | none =>
    have hq' := a5 hq
    subst hq'
    simp (disch := omega) only [f_P_errorAt, Option.bind_some, Nat.reduceEqDiff, Nat.add_zero, Nat.zero_add, Nat.reduceLT, Nat.reduceLeDiff, Nat.reduceAdd, Nat.reduceSub, Nat.reduceMul, Nat.reduceDiv, Nat.lt_irrefl, Nat.not_lt_zero, Nat.zero_le, Nat.one_ne_zero, Nat.succ_ne_zero,  lt_def, i32_lit, reduceIte, P_isIn_eq, or_false, false_or, or_true, true_or, and_true, true_and, and_false, false_and, not_true, not_false_eq_true, eq_self, if_true, if_false, not_or, not_and, Nat.not_lt, Nat.not_le, e1, a1, hz, f_Reader_place, a3]
  | some c =>
    obtain ⟨q, rfl, -⟩ := a6 c hq
    have hne : ¬ some q = none := by simp
    simp (disch := omega) only [f_P_errorAt, Option.bind_some, Nat.reduceEqDiff, Nat.add_zero, Nat.zero_add, Nat.reduceLT, Nat.reduceLeDiff, Nat.reduceAdd, Nat.reduceSub, Nat.reduceMul, Nat.reduceDiv, Nat.lt_irrefl, Nat.not_lt_zero, Nat.zero_le, Nat.one_ne_zero, Nat.succ_ne_zero,  lt_def, i32_lit, reduceIte, P_isIn_eq, or_false, false_or, or_true, true_or, and_true, true_and, and_false, false_and, not_true, not_false_eq_true, eq_self, if_true, if_false, not_or, not_and, Nat.not_lt, Nat.not_le, e1, a1, hz, hne]
/-- the logs that the hours from a to b show now, as records -/
def wev (w : WD) (a b : Nat) : List Rec := ev (vL w) (pks (vL w) (vm w) a b (yh (vy w)))
theorem W_ask (hF : 5000 ≤ F) (H : CV s w) (hZ : sz s + 50 ≤ Z) {a b : Nat} (hab : a ≤ b) (hb : b ≤ yh (vy w)) {c : List QT} (hq : ques (vt w) (vk w) = some c) : ∃ s', f_P_ask F Z s (io a) (io b) = some (.inl (valQ (wev w a b) c), s') ∧ CV s' w ∧ KA s s' := by
  have H0 := H
  obtain ⟨⟨c1, c2, c3, c4, c5, c6, c7, c8⟩, g, hn8, T, t2, e1, t4⟩ := H
  have hn := T.1
  have hh := g.1
  have LG : LGg (vL w) (vm w) (yh (vy w)) := g.2.2.2.2.2.2.2.2
  have n1 : ¬ yh (vy w) < a := by omega
  have n2 : ¬ b < a := by omega
  have n3 : ¬ yh (vy w) < b := by omega
  have n0 : ¬ a < 0 := by omega
  obtain ⟨q', s1, a1, a2, a3, a4, a5, a6⟩ := read_eq (F := F) (Z := Z) hF T t2 (by omega)
  have f1 := a2.fx
  have hz1 : sz s1 ≤ Z := by omega
  have H1 := (H0.fw a2 (by omega)).1
  obtain ⟨q, rfl, hT⟩ := a6 c hq
  have hne : ¬ some q = none := by simp
  obtain ⟨s2, p1, p2, p3⟩ := pick_eq (F := F) hF H1.1.2.2.2.2.2.2.1 LG hh hh hab (by omega)
  have f2 := p3.fx
  obtain ⟨v1, h1⟩ := H1.1.2.2.2.2.2.2.2
  obtain ⟨v2, h2⟩ := H1.2.2.2.2.2.2
  have H2 : CV s2 w := H1.fx f2 ⟨v1, h1.fx f2⟩ ⟨v2, h2.fx f2⟩
  have LW2 : LW s2 (vL w) (vm w) (yh (vy w)) (pks (vL w) (vm w) a b (yh (vy w))) := ⟨H2.1.2.2.2.2.2.2.1, LG, hh, p2, Nat.le_trans pks_len LG.1, pks_mem⟩
  obtain ⟨s3, w1, w2, w3⟩ := walk_eq (F := F) hF hn (TQ.nm p3.nm _ _ _ hT) LW2 H2.1.2.2.2.2.2.2.2
  have f3 := w2.1.fx
  obtain ⟨v3, h3⟩ := H2.2.2.2.2.2.2
  have e2 : gI s1 2 = io (yh (vy w)) := H1.h.1
  refine ⟨s3, ?_, H2.fx f3 w3 ⟨v3, h3.fx f3⟩, ((KA.fx f1).trans (KA.fx f2)).trans (KA.fx f3)⟩
  simp (disch := omega) only [f_P_ask, f_P_isRange, Option.bind_some, Nat.reduceEqDiff, Nat.add_zero, Nat.zero_add, Nat.reduceLT, Nat.reduceLeDiff, Nat.reduceAdd, Nat.reduceSub, Nat.reduceMul, Nat.reduceDiv, Nat.lt_irrefl, Nat.not_lt_zero, Nat.zero_le, Nat.one_ne_zero, Nat.succ_ne_zero,  lt_def, i32_lit, reduceIte, P_isIn_eq, or_false, false_or, or_true, true_or, and_true, true_and, and_false, false_and, not_true, not_false_eq_true, eq_self, if_true, if_false, not_or, not_and, Nat.not_lt, Nat.not_le, c1, io_lt, n1, n2, n3, io_eq, e1, a1, hz1, hne, e2, p1, w1]
  rfl
theorem W_askC (hF : 5000 ≤ F) (H : CV s w) (hZ : sz s + 50 ≤ Z) {a b : Nat} (hab : a ≤ b) (hb : b ≤ yh (vy w)) {c : List QT} (hq : ques (vt w) (vk w) = some c) : ∃ s', f_P_askByCodes F Z s (io a) (io b) = some (.inl (valQ (wev w a b) c), s') ∧ CV s' w ∧ KA s s' := by
  have H0 := H
  obtain ⟨⟨c1, c2, c3, c4, c5, c6, c7, c8⟩, g, hn8, T, t2, e1, t4⟩ := H
  have hn := T.1
  have hh := g.1
  have LG : LGg (vL w) (vm w) (yh (vy w)) := g.2.2.2.2.2.2.2.2
  have n1 : ¬ yh (vy w) < a := by omega
  have n2 : ¬ b < a := by omega
  have n3 : ¬ yh (vy w) < b := by omega
  obtain ⟨q', s1, a1, a2, a3, a4, a5, a6⟩ := read_eq (F := F) (Z := Z) hF T t2 (by omega)
  have f1 := a2.fx
  have hz1 : sz s1 ≤ Z := by omega
  have H1 := (H0.fw a2 (by omega)).1
  obtain ⟨q, rfl, hT⟩ := a6 c hq
  have hne : ¬ some q = none := by simp
  obtain ⟨s2, k1, k2, k3⟩ := coder_eq (F := F) hF T H1.2.2.2.2.1 hq
  have fk := k2.1.fx
  obtain ⟨v1, h1⟩ := H1.1.2.2.2.2.2.2.2
  obtain ⟨v2, h2⟩ := H1.2.2.2.2.2.2
  have H2 : CV s2 w := H1.fx fk ⟨v1, h1.fx fk⟩ ⟨v2, h2.fx fk⟩
  obtain ⟨s3, p1, p2, p3⟩ := pick_eq (F := F) hF H2.1.2.2.2.2.2.2.1 LG hh hh hab (by omega)
  have f3 := p3.fx
  obtain ⟨v3, h3⟩ := H2.1.2.2.2.2.2.2.2
  obtain ⟨v4, h4⟩ := H2.2.2.2.2.2.2
  have H3 : CV s3 w := H2.fx f3 ⟨v3, h3.fx f3⟩ ⟨v4, h4.fx f3⟩
  have LW3 : LW s3 (vL w) (vm w) (yh (vy w)) (pks (vL w) (vm w) a b (yh (vy w))) := ⟨H3.1.2.2.2.2.2.2.1, LG, hh, p2, Nat.le_trans pks_len LG.1, pks_mem⟩
  have C3 : CR s3 (qrow c) := ⟨k3.1, by rw [p3.gi 1665 (by decide)]; exact k3.2.1, fun i hi => by rw [p3.ga 27 (by decide)]; exact k3.2.2 i hi⟩
  obtain ⟨s4, w1, w2, w3⟩ := coderun_eq (F := F) hF T hq C3 LW3 H3.2.2.2.2.2.2
  have f4 := w2.1.fx
  obtain ⟨v5, h5⟩ := H3.1.2.2.2.2.2.2.2
  have e2 : gI s1 1 = io (vk w) := H1.2.2.2.2.2.1
  have e3 : gI s2 2 = io (yh (vy w)) := H2.h.1
  refine ⟨s4, ?_, H3.fx f4 ⟨v5, h5.fx f4⟩ w3, (((KA.fx f1).trans (KA.fx fk)).trans (KA.fx f3)).trans (KA.fx f4)⟩
  simp (disch := omega) only [f_P_askByCodes, f_P_isRange, Option.bind_some, Nat.reduceEqDiff, Nat.add_zero, Nat.zero_add, Nat.reduceLT, Nat.reduceLeDiff, Nat.reduceAdd, Nat.reduceSub, Nat.reduceMul, Nat.reduceDiv, Nat.lt_irrefl, Nat.not_lt_zero, Nat.zero_le, Nat.one_ne_zero, Nat.succ_ne_zero,  lt_def, i32_lit, reduceIte, P_isIn_eq, or_false, false_or, or_true, true_or, and_true, true_and, and_false, false_and, not_true, not_false_eq_true, eq_self, if_true, if_false, not_or, not_and, Nat.not_lt, Nat.not_le, c1, io_lt, n1, n2, n3, io_eq, e1, a1, hz1, hne, e2, k1, e3, p1, w1]
  rfl
/-- what cannot be asked -/
theorem W_ask_r (H : CV s w) {a b : Int32} (h : (a < io 0 ∨ io (yh (vy w)) < a) ∨ (¬ (a < io 0 ∨ io (yh (vy w)) < a) ∧ (b < a ∨ io (yh (vy w)) < b))) : f_P_ask F Z s a b = xz Z s 0 ∧ f_P_askByCodes F Z s a b = xz Z s 0 := by
  have hr := isRange_bad (F := F) (s := s) h
  constructor
  · simp (disch := omega) only [f_P_ask, Option.bind_some, Nat.reduceEqDiff, Nat.add_zero, Nat.zero_add, Nat.reduceLT, Nat.reduceLeDiff, Nat.reduceAdd, Nat.reduceSub, Nat.reduceMul, Nat.reduceDiv, Nat.lt_irrefl, Nat.not_lt_zero, Nat.zero_le, Nat.one_ne_zero, Nat.succ_ne_zero,  lt_def, i32_lit, reduceIte, P_isIn_eq, or_false, false_or, or_true, true_or, and_true, true_and, and_false, false_and, not_true, not_false_eq_true, eq_self, if_true, if_false, not_or, not_and, Nat.not_lt, Nat.not_le, H.h.1, hr]
  · simp (disch := omega) only [f_P_askByCodes, Option.bind_some, Nat.reduceEqDiff, Nat.add_zero, Nat.zero_add, Nat.reduceLT, Nat.reduceLeDiff, Nat.reduceAdd, Nat.reduceSub, Nat.reduceMul, Nat.reduceDiv, Nat.lt_irrefl, Nat.not_lt_zero, Nat.zero_le, Nat.one_ne_zero, Nat.succ_ne_zero,  lt_def, i32_lit, reduceIte, P_isIn_eq, or_false, false_or, or_true, true_or, and_true, true_and, and_false, false_and, not_true, not_false_eq_true, eq_self, if_true, if_false, not_or, not_and, Nat.not_lt, Nat.not_le, H.h.1, hr]
theorem W_ask_n (hF : 5000 ≤ F) (H : CV s w) (hZ : sz s + 50 ≤ Z) {a b : Nat} (hab : a ≤ b) (hb : b ≤ yh (vy w)) (hq : ques (vt w) (vk w) = none) : ∃ s', f_P_ask F Z s (io a) (io b) = some (.inr 1, s') ∧ f_P_askByCodes F Z s (io a) (io b) = some (.inr 1, s') ∧ CV s' w ∧ KA s s' := by
  have H0 := H
  obtain ⟨⟨c1, c2, c3, c4, c5, c6, c7, c8⟩, g, hn8, T, t2, e1, t4⟩ := H
  have hn := T.1
  have hh := g.1
  have n1 : ¬ yh (vy w) < a := by omega
  have n2 : ¬ b < a := by omega
  have n3 : ¬ yh (vy w) < b := by omega
  obtain ⟨q', s1, a1, a2, a3, a4, a5, a6⟩ := read_eq (F := F) (Z := Z) hF T t2 (by omega)
  have hz1 : sz s1 ≤ Z := by omega
  have hz2 : sz s1 < Z := by omega
  have H1 := (H0.fw a2 (by omega)).ex
  have hq' := a5 hq
  subst hq'
  refine ⟨_, ?_, ?_, H1.1, H1.2.1⟩
  · simp (disch := omega) only [f_P_ask, f_P_isRange, Option.bind_some, Nat.reduceEqDiff, Nat.add_zero, Nat.zero_add, Nat.reduceLT, Nat.reduceLeDiff, Nat.reduceAdd, Nat.reduceSub, Nat.reduceMul, Nat.reduceDiv, Nat.lt_irrefl, Nat.not_lt_zero, Nat.zero_le, Nat.one_ne_zero, Nat.succ_ne_zero,  lt_def, i32_lit, reduceIte, P_isIn_eq, or_false, false_or, or_true, true_or, and_true, true_and, and_false, false_and, not_true, not_false_eq_true, eq_self, if_true, if_false, not_or, not_and, Nat.not_lt, Nat.not_le, c1, io_lt, n1, n2, n3, io_eq, e1, a1, hz1, hz2]
  · simp (disch := omega) only [f_P_askByCodes, f_P_isRange, Option.bind_some, Nat.reduceEqDiff, Nat.add_zero, Nat.zero_add, Nat.reduceLT, Nat.reduceLeDiff, Nat.reduceAdd, Nat.reduceSub, Nat.reduceMul, Nat.reduceDiv, Nat.lt_irrefl, Nat.not_lt_zero, Nat.zero_le, Nat.one_ne_zero, Nat.succ_ne_zero,  lt_def, i32_lit, reduceIte, P_isIn_eq, or_false, false_or, or_true, true_or, and_true, true_and, and_false, false_and, not_true, not_false_eq_true, eq_self, if_true, if_false, not_or, not_and, Nat.not_lt, Nat.not_le, c1, io_lt, n1, n2, n3, io_eq, e1, a1, hz1, hz2]
/-- an hour -/
def whr (w : WD) : WD := (gH (vL w) (vm w) (vn w) (vR w) (vy w), vL w, vm w, vn w, vR w, vt w, vk w)
theorem W_pass (hF : 5000 ≤ F) (H : CV s w) (h1 : yh (vy w) + 1 ≤ 1000) : ∃ s', f_P_pass F Z s (io 1) = some (.inl (io (yc (vy (whr w)) - yc (vy w))), s') ∧ CV s' (whr w) ∧ KA s s' := by
  have H0 := H
  obtain ⟨C, g, hn8, T, t2, e1, v2, t4⟩ := H
  obtain ⟨s1, q1, C1, f1⟩ := CI.hours (F := F) (Z := Z) (p := 1) (c0 := yc (vy w)) hF g hn8 (by omega) (Nat.le_refl _) 1 0 F s (by omega) (by omega) C
  have e9 : gP (vL w) (vm w) (vn w) (vR w) (vy w) 1 = gH (vL w) (vm w) (vn w) (vR w) (vy w) := rfl
  rw [e9] at q1 C1
  have G1 := g.hours hn8 1 (by omega)
  rw [e9] at G1
  obtain ⟨c1, c2, c3, c4⟩ := H0.c
  have e0 := H0.h.1
  have n1 : ¬ 1 < 1 := by omega
  have n2 : ¬ 24 < 1 := by omega
  have n3 : 1 ≤ 1000 - yh (vy w) := by omega
  refine ⟨s1, ?_, ⟨C1, G1, hn8, T, fun k hk => ?_, ?_, v2, ?_⟩, KA.fy f1⟩
  · simp (disch := omega) only [f_P_pass, Option.bind_some, Nat.reduceEqDiff, Nat.add_zero, Nat.zero_add, Nat.reduceLT, Nat.reduceLeDiff, Nat.reduceAdd, Nat.reduceSub, Nat.reduceMul, Nat.reduceDiv, Nat.lt_irrefl, Nat.not_lt_zero, Nat.zero_le, Nat.one_ne_zero, Nat.succ_ne_zero,  lt_def, i32_lit, reduceIte, P_isIn_eq, or_false, false_or, or_true, true_or, and_true, true_and, and_false, false_and, not_true, not_false_eq_true, eq_self, if_true, if_false, not_or, not_and, Nat.not_lt, Nat.not_le, io_lt, n1, n2, io_eq, e0, io_sub, io_le, n3, c1, q1]
    rfl
  · show gA s1 1 k = _
    have : gA s1 1 = gA s 1 := f1.2.1 1 (by decide)
    rw [this]; exact t2 k hk
  · exact (f1.1 1 (by decide)).trans e1
  · exact t4.fy f1
theorem W_pass_x (H : CV s w) {x : Int32} (h : x < io 1 ∨ io 24 < x) : f_P_pass F Z s x = xz Z s 0 := by
  simp (disch := omega) only [f_P_pass, Option.bind_some, Nat.reduceEqDiff, Nat.add_zero, Nat.zero_add, Nat.reduceLT, Nat.reduceLeDiff, Nat.reduceAdd, Nat.reduceSub, Nat.reduceMul, Nat.reduceDiv, Nat.lt_irrefl, Nat.not_lt_zero, Nat.zero_le, Nat.one_ne_zero, Nat.succ_ne_zero,  lt_def, i32_lit, reduceIte, P_isIn_eq, or_false, false_or, or_true, true_or, and_true, true_and, and_false, false_and, not_true, not_false_eq_true, eq_self, if_true, if_false, not_or, not_and, Nat.not_lt, Nat.not_le, h, io_eq]
end WT
