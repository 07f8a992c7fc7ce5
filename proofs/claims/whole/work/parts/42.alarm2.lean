/-! alarms, the two sides apart -/
abbrev AG : Type := (Nat → Nat) × (Nat → Nat) × (Nat → Nat) × (Nat → Nat) × (Nat → Nat)
def xq (a : AG) : Nat → Nat := a.1
def xt (a : AG) : Nat → Nat := a.2.1
def xp (a : AG) : Nat → Nat := a.2.2.1
def xu (a : AG) : Nat → Nat := a.2.2.2.1
def xa (a : AG) : Nat → Nat := a.2.2.2.2
def ALc (s : St) (a : AG) (c w : Nat) : Prop := gI s 1157 = io c ∧ gI s 1158 = io w ∧ (∀ i, c ≤ i → i < 4000 → gA s 23 i = io 0) ∧ ∀ i, i < c → gA s 19 i = io (xq a i) ∧ gA s 20 i = io (xt a i) ∧ gA s 23 i = io (xa a i) ∧ (i < w → gA s 21 i = io (xp a i - 1) ∧ gA s 22 i = io (xu a i))
def ALm (s : St) (a : AG) (c : Nat) : Prop := gI s 2546 = io c ∧ ∀ i, i < c → gA s 68 i = io (enc (xq a i) (xt a i) (xp a i) (xu a i) (xa a i))
def ALg (a : AG) (h n r c w : Nat) : Prop := c ≤ 4000 ∧ r ≤ 4 ∧ w ≤ c ∧ ∀ i, i < c → xq a i < r ∧ 1 ≤ xt a i ∧ xt a i ≤ h ∧ xa a i ≤ 1 ∧ ((i < w ∧ 1 ≤ xp a i ∧ xp a i ≤ n ∧ xu a i ≤ h) ∨ (w ≤ i ∧ xp a i = 0 ∧ xu a i = 0 ∧ xa a i = 0))
theorem AL.split {s : St} {h n r c w : Nat} (A : AL s h n r c w) : ∃ a : AG, ALc s a c w ∧ ALm s a c ∧ ALg a h n r c w := by
  have h1 : ∀ i : Nat, ∃ z : Nat × Nat × Nat × Nat × Nat, i < c → z.1 < r ∧ 1 ≤ z.2.1 ∧ z.2.1 ≤ h ∧ z.2.2.2.2 ≤ 1 ∧ gA s 19 i = io z.1 ∧ gA s 20 i = io z.2.1 ∧ gA s 23 i = io z.2.2.2.2 ∧ gA s 68 i = io (enc z.1 z.2.1 z.2.2.1 z.2.2.2.1 z.2.2.2.2) ∧
      ((i < w ∧ 1 ≤ z.2.2.1 ∧ z.2.2.1 ≤ n ∧ z.2.2.2.1 ≤ h ∧ gA s 21 i = io (z.2.2.1 - 1) ∧ gA s 22 i = io z.2.2.2.1) ∨ (w ≤ i ∧ z.2.2.1 = 0 ∧ z.2.2.2.1 = 0 ∧ z.2.2.2.2 = 0)) := fun i => by
    by_cases hi : i < c
    · obtain ⟨q, t, p, u, a, hh⟩ := A.2.2.2.2.2.2.2 i hi
      exact ⟨(q, t, p, u, a), fun _ => hh⟩
    · exact ⟨(0, 0, 0, 0, 0), fun h => absurd h hi⟩
  obtain ⟨z, hz⟩ := Classical.axiomOfChoice h1
  refine ⟨(fun i => (z i).1, fun i => (z i).2.1, fun i => (z i).2.2.1, fun i => (z i).2.2.2.1, fun i => (z i).2.2.2.2), ⟨A.2.2.2.1, A.2.2.2.2.1, A.2.2.2.2.2.2.1, fun i hi => ?_⟩, ⟨A.2.2.2.2.2.1, fun i hi => ?_⟩, A.1, A.2.1, A.2.2.1, fun i hi => ?_⟩
  · obtain ⟨-, -, -, -, e1, e2, e3, -, h9⟩ := hz i hi
    refine ⟨e1, e2, e3, fun hw => ?_⟩
    rcases h9 with ⟨-, -, -, -, e4, e5⟩ | ⟨h8, -⟩
    · exact ⟨e4, e5⟩
    · omega
  · exact (hz i hi).2.2.2.2.2.2.2.1
  · obtain ⟨e1, e2, e3, e4, -, -, -, -, h9⟩ := hz i hi
    exact ⟨e1, e2, e3, e4, h9.imp (fun h => ⟨h.1, h.2.1, h.2.2.1, h.2.2.2.1⟩) id⟩
theorem AL.join {s : St} {a : AG} {h n r c w : Nat} (C : ALc s a c w) (M : ALm s a c) (G : ALg a h n r c w) : AL s h n r c w :=
  ⟨G.1, G.2.1, G.2.2.1, C.1, C.2.1, M.1, C.2.2.1, fun i hi => by
    obtain ⟨g1, g2, g3, g4, g5⟩ := G.2.2.2 i hi
    obtain ⟨c1, c2, c3, c4⟩ := C.2.2.2 i hi
    refine ⟨_, _, _, _, _, g1, g2, g3, g4, c1, c2, c3, M.2 i hi, ?_⟩
    rcases g5 with ⟨h1, h2, h3, h4⟩ | h1
    · exact Or.inl ⟨h1, h2, h3, h4, c4 h1⟩
    · exact Or.inr h1⟩
/-- all from w on are woken -/
def awk (a : AG) (w p h : Nat) : AG := (xq a, xt a, fun i => if w ≤ i then p + 1 else xp a i, fun i => if w ≤ i then h else xu a i, xa a)
def wkA (a : AG) (w : Nat) (x : Int32) (h : Nat) : AG := if x = -io 1 then a else awk a w (cl x) h
def wkW (w c : Nat) (x : Int32) : Nat := if x = -io 1 then w else c
theorem ALg.wake {a : AG} {h n r c w : Nat} (G : ALg a h n r c w) (hn : n ≤ 8) {x : Int32} (hx : nob n x) : ALg (wkA a w x h) h n r c (wkW w c x) := by
  unfold wkA wkW
  rcases hx with rfl | ⟨p, hp, rfl⟩
  · rw [if_pos rfl, if_pos rfl]; exact G
  · have hne : ¬ io p = -io 1 := by rw [io_neg1 (by omega)]; exact id
    rw [if_neg hne, if_neg hne, cl_io (by omega)]
    refine ⟨G.1, G.2.1, Nat.le_refl _, fun i hi => ?_⟩
    obtain ⟨g1, g2, g3, g4, g5⟩ := G.2.2.2 i hi
    refine ⟨g1, g2, g3, g4, Or.inl ⟨hi, ?_⟩⟩
    show 1 ≤ (if w ≤ i then p + 1 else xp a i) ∧ (if w ≤ i then p + 1 else xp a i) ≤ n ∧ (if w ≤ i then h else xu a i) ≤ h
    by_cases h1 : w ≤ i
    · rw [if_pos h1, if_pos h1]; omega
    · rw [if_neg h1, if_neg h1]
      rcases g5 with ⟨-, h3, h4, h5⟩ | ⟨h2, -⟩
      · exact ⟨h3, h4, h5⟩
      · omega
theorem P_wake {F h n r c w : Nat} (hF : 5000 ≤ F) {s : St} {a : AG} (C : ALc s a c w) (G : ALg a h n r c w) (hn : n ≤ 8) {x : Int32} (hx : nob n x) : ∃ s', f_Alarms_wakeAll F s x (io h) = some s' ∧ ALc s' (wkA a w x h) c (wkW w c x) ∧ Fr [1158] [21, 22] s s' := by
  unfold wkA wkW
  rcases hx with rfl | ⟨p, hp, rfl⟩
  · rw [if_pos rfl, if_pos rfl]
    exact ⟨s, wakeAll_no, C, Fr.rf⟩
  · have hne : ¬ io p = -io 1 := by rw [io_neg1 (by omega)]; exact id
    have hwc := G.2.2.1
    rw [if_neg hne, if_neg hne, cl_io (by omega)]
    have f := wk_fr (c := c) (x := io p) (y := io h) (c - w) w s
    obtain ⟨b1, b2, b3⟩ := wk_at (c := c) (x := io p) (y := io h) (c - w) w s
    refine ⟨wk s w c (io p) (io h) (c - w), wakeAll_eq hF G.1 hwc (by omega) C.1 C.2.1, ⟨by rw [f.gi 1157 (by decide)]; exact C.1, b1, by rw [f.ga 23 (by decide)]; exact C.2.2.1, fun i hi => ?_⟩, f⟩
    obtain ⟨c1, c2, c3, c4⟩ := C.2.2.2 i hi
    rw [f.ga 19 (by decide), f.ga 20 (by decide), f.ga 23 (by decide), b2, b3]
    refine ⟨c1, c2, c3, fun _ => ?_⟩
    show _ = io ((if w ≤ i then p + 1 else xp a i) - 1) ∧ _ = io (if w ≤ i then h else xu a i)
    by_cases h1 : w ≤ i
    · rw [if_pos (show w ≤ i ∧ i < w + (c - w) by omega), if_pos (show w ≤ i ∧ i < w + (c - w) by omega), if_pos h1, if_pos h1]
      exact ⟨rfl, rfl⟩
    · rw [if_neg (show ¬ (w ≤ i ∧ i < w + (c - w)) by omega), if_neg (show ¬ (w ≤ i ∧ i < w + (c - w)) by omega), if_neg h1, if_neg h1]
      exact c4 (by omega)
theorem enc0 (q t p h : Nat) : enc q t 0 0 0 + 4096 * (p + 1) + 65536 * h = enc q t (p + 1) h 0 := by unfold enc; omega
theorem M_wake_loop {F h c p : Nat} (hh : h ≤ 1000) (hc : c ≤ 4000) (hp : p < 8) : ∀ (k m w : Nat) (s : St), gI s 2546 = io c → gI s 2526 = io h → w + k = c → k < m → (∀ i, w ≤ i → i < c → ∃ q t, q < 4 ∧ t ≤ 1000 ∧ gA s 68 i = io (enc q t 0 0 0)) → f_M_begins_b66 F m s (io p) (io w) = some (wkm s h p w k) := by
  intro k
  induction k with
  | zero =>
    intro m w s e1 e2 hw hm hz
    obtain ⟨m, rfl⟩ : ∃ m', m = m' + 1 := ⟨m - 1, by omega⟩
    have hw' : w = c := by omega
    subst hw'
    simp (disch := omega) only [f_M_begins_b66, Option.bind_some, Nat.reduceEqDiff, Nat.add_zero, Nat.zero_add, Nat.reduceLT, Nat.reduceLeDiff, Nat.reduceAdd, Nat.reduceSub, Nat.reduceMul, Nat.reduceDiv, Nat.lt_irrefl, Nat.not_lt_zero, Nat.zero_le, Nat.one_ne_zero, Nat.succ_ne_zero,  lt_def, i32_lit, reduceIte, P_isIn_eq, M_isIn_eq, M_goes_eq, or_false, false_or, or_true, true_or, and_true, true_and, and_false, false_and, not_true, not_false_eq_true, eq_self, if_true, if_false, not_or, not_and, Nat.not_lt, Nat.not_le, io_le, e1, Nat.le_refl, wkm]
  | succ k ih =>
    intro m w s e1 e2 hw hm hz
    obtain ⟨m, rfl⟩ : ∃ m', m = m' + 1 := ⟨m - 1, by omega⟩
    have h1 : ¬ c ≤ w := by omega
    obtain ⟨q, t, hq, ht, e68⟩ := hz w (by omega) (by omega)
    have hwb := wokenBy_eq (F := F) (s := s) (show w < 4000 by omega) e68 hq ht (by omega) (by omega) (by omega)
    rw [show dn 0 = -io 1 from rfl] at hwb
    have hwk := wakes_eq (F := F) (show w < 4000 by omega) e68 e2 hq ht (p := p) (by omega) hh
    have hlt := enc_lt hq ht (show 0 ≤ 8 by omega) (show 0 ≤ 1000 by omega) (show 0 ≤ 1 by omega)
    have h3 := ih m (w + 1) (sA s 68 w (io (enc q t (p + 1) h 0))) e1 e2 (by omega) (by omega) (fun i h1 h2 => by
      obtain ⟨q', t', hq', ht', e'⟩ := hz i (by omega) h2
      refine ⟨q', t', hq', ht', ?_⟩
      rw [gA_sA, if_pos rfl, if_neg (by omega)]
      exact e')
    unfold wkm
    rw [e68, cl_io (by omega), enc0]
    simp (disch := omega) only [f_M_begins_b66, Option.bind_some, Nat.reduceEqDiff, Nat.add_zero, Nat.zero_add, Nat.reduceLT, Nat.reduceLeDiff, Nat.reduceAdd, Nat.reduceSub, Nat.reduceMul, Nat.reduceDiv, Nat.lt_irrefl, Nat.not_lt_zero, Nat.zero_le, Nat.one_ne_zero, Nat.succ_ne_zero,  lt_def, i32_lit, reduceIte, P_isIn_eq, M_isIn_eq, M_goes_eq, or_false, false_or, or_true, true_or, and_true, true_and, and_false, false_and, not_true, not_false_eq_true, eq_self, if_true, if_false, not_or, not_and, Nat.not_lt, Nat.not_le, io_le, io_neg1, e1, h1, hwb, hwk, io_add]
    exact h3
theorem M_wake_skip {F h n r c w p : Nat} {a : AG} (hh : h ≤ 1000) (hn : n ≤ 8) (G : ALg a h n r c w) (hp : p < 8) : ∀ (k m i : Nat) (s : St), ALm s a c → gI s 2526 = io h → i + k = w → c - i < m → f_M_begins_b66 F m s (io p) (io i) = some (wkm s h p w (c - w)) := by
  have hwc := G.2.2.1
  have hc := G.1
  have hr := G.2.1
  intro k
  induction k with
  | zero =>
    intro m i s M e2 hi hm
    have hi' : i = w := by omega
    subst hi'
    refine M_wake_loop hh hc hp (c - i) m i s M.1 e2 (by omega) (by omega) (fun x h1 h2 => ?_)
    obtain ⟨g1, g2, g3, g4, g5⟩ := G.2.2.2 x h2
    rcases g5 with ⟨h5, -⟩ | ⟨-, h6, h7, h8⟩
    · omega
    · refine ⟨xq a x, xt a x, by omega, by omega, ?_⟩
      have := M.2 x h2
      rw [h6, h7, h8] at this
      exact this
  | succ k ih =>
    intro m i s M e2 hi hm
    obtain ⟨m, rfl⟩ : ∃ m', m = m' + 1 := ⟨m - 1, by omega⟩
    have h1 : ¬ c ≤ i := by omega
    obtain ⟨g1, g2, g3, g4, g5⟩ := G.2.2.2 i (by omega)
    have h3 := ih m (i + 1) s M e2 (by omega) (by omega)
    rcases g5 with ⟨-, h6, h7, h8⟩ | ⟨h5, -⟩
    · have hwb := wokenBy_eq (F := F) (s := s) (show i < 4000 by omega) (M.2 i (by omega)) (by omega) (by omega) (by omega) (by omega) g4
      rw [dn_pos h6] at hwb
      simp (disch := omega) only [f_M_begins_b66, Option.bind_some, Nat.reduceEqDiff, Nat.add_zero, Nat.zero_add, Nat.reduceLT, Nat.reduceLeDiff, Nat.reduceAdd, Nat.reduceSub, Nat.reduceMul, Nat.reduceDiv, Nat.lt_irrefl, Nat.not_lt_zero, Nat.zero_le, Nat.one_ne_zero, Nat.succ_ne_zero,  lt_def, i32_lit, reduceIte, P_isIn_eq, M_isIn_eq, M_goes_eq, or_false, false_or, or_true, true_or, and_true, true_and, and_false, false_and, not_true, not_false_eq_true, eq_self, if_true, if_false, not_or, not_and, Nat.not_lt, Nat.not_le, io_le, io_neg1, M.1, h1, hwb, io_add]
      exact h3
    · omega
theorem M_wake {F h n r c w : Nat} (hF : 5000 ≤ F) {s : St} {a : AG} (hh : h ≤ 1000) (M : ALm s a c) (G : ALg a h n r c w) (hn : n ≤ 8) (e2 : gI s 2526 = io h) {x : Int32} (hx : nob n x) : ∃ s', f_M_begins_b66 F F s x (io 0) = some s' ∧ ALm s' (wkA a w x h) c ∧ Fr [] [68] s s' := by
  have hc := G.1
  have hwc := G.2.2.1
  have hr := G.2.1
  unfold wkA
  rcases hx with rfl | ⟨p, hp, rfl⟩
  · rw [if_pos rfl]
    refine ⟨s, ?_, M, Fr.rf⟩
    obtain ⟨F', rfl⟩ : ∃ m, F = m + 1 := ⟨F - 1, by omega⟩
    by_cases h0 : c ≤ 0 <;> simp (disch := omega) only [f_M_begins_b66, Option.bind_some, Nat.reduceEqDiff, Nat.add_zero, Nat.zero_add, Nat.reduceLT, Nat.reduceLeDiff, Nat.reduceAdd, Nat.reduceSub, Nat.reduceMul, Nat.reduceDiv, Nat.lt_irrefl, Nat.not_lt_zero, Nat.zero_le, Nat.one_ne_zero, Nat.succ_ne_zero,  lt_def, i32_lit, reduceIte, P_isIn_eq, M_isIn_eq, M_goes_eq, or_false, false_or, or_true, true_or, and_true, true_and, and_false, false_and, not_true, not_false_eq_true, eq_self, if_true, if_false, not_or, not_and, Nat.not_lt, Nat.not_le, io_le, M.1, h0]
  · have hne : ¬ io p = -io 1 := by rw [io_neg1 (by omega)]; exact id
    rw [if_neg hne, cl_io (by omega)]
    have hs := M_wake_skip (F := F) hh hn G (show p < 8 by omega) w F 0 s M e2 (by omega) (by omega)
    have f := wkm_fr (h := h) (p := p) (c - w) w s
    refine ⟨wkm s h p w (c - w), hs, ⟨by rw [f.gi 2546 (by decide)]; exact M.1, fun i hi => ?_⟩, f⟩
    rw [wkm_at, M.2 i hi]
    show _ = io (enc (xq a i) (xt a i) (if w ≤ i then p + 1 else xp a i) (if w ≤ i then h else xu a i) (xa a i))
    obtain ⟨g1, g2, g3, g4, g5⟩ := G.2.2.2 i hi
    by_cases h1 : w ≤ i
    · rw [if_pos (show w ≤ i ∧ i < w + (c - w) by omega), if_pos h1, if_pos h1]
      rcases g5 with ⟨h5, -⟩ | ⟨-, h6, h7, h8⟩
      · omega
      · have hlt := enc_lt (show xq a i < 4 by omega) (show xt a i ≤ 1000 by omega) (show 0 ≤ 8 by omega) (show 0 ≤ 1000 by omega) (show 0 ≤ 1 by omega)
        rw [h6, h7, h8, cl_io (by omega), enc0]
    · rw [if_neg (show ¬ (w ≤ i ∧ i < w + (c - w)) by omega), if_neg h1, if_neg h1]
/-! a new alarm -/
def anew (a : AG) (c q h : Nat) : AG := (ups (xq a) c q, ups (xt a) c h, ups (xp a) c 0, ups (xu a) c 0, ups (xa a) c 0)
theorem ALg.new {a : AG} {h n r c w q : Nat} (G : ALg a h n r c w) (hc : c < 4000) (hq : q < r) (hh : 1 ≤ h) : ALg (anew a c q h) h n r (c + 1) w := by
  have hwc := G.2.2.1
  refine ⟨by omega, G.2.1, by omega, fun i hi => ?_⟩
  show ups (xq a) c q i < r ∧ 1 ≤ ups (xt a) c h i ∧ ups (xt a) c h i ≤ h ∧ ups (xa a) c 0 i ≤ 1 ∧ ((i < w ∧ 1 ≤ ups (xp a) c 0 i ∧ ups (xp a) c 0 i ≤ n ∧ ups (xu a) c 0 i ≤ h) ∨ (w ≤ i ∧ ups (xp a) c 0 i = 0 ∧ ups (xu a) c 0 i = 0 ∧ ups (xa a) c 0 i = 0))
  unfold ups
  by_cases e : i = c
  · simp only [e, reduceIte]
    exact ⟨hq, hh, Nat.le_refl _, by omega, Or.inr ⟨by omega, trivial, trivial, trivial⟩⟩
  · simp only [e, reduceIte]
    exact G.2.2.2 i (by omega)
theorem P_add {F h n r c w q : Nat} {s : St} {a : AG} (C : ALc s a c w) (G : ALg a h n r c w) (hc : c < 4000) : ∃ s', f_Alarms_add F s (io q) (io h) = some s' ∧ ALc s' (anew a c q h) (c + 1) w ∧ Fr [1157] [19, 20] s s' := by
  have hwc := G.2.2.1
  have h1 : ¬ 3999 < c := by omega
  have h0 : ¬ c < 0 := by omega
  refine ⟨sI (sA (sA s 19 c (io q)) 20 c (io h)) 1157 (io (c + 1)), ?_, ⟨rfl, C.2.1, fun i h1 h2 => C.2.2.1 i (by omega) h2, fun i hi => ?_⟩, ((Fr.rf.A (by decide)).A (by decide)).I (by decide)⟩
  · have e1 := C.1
    simp (disch := omega) only [f_Alarms_add, Option.bind_some, Nat.reduceEqDiff, Nat.add_zero, Nat.zero_add, Nat.reduceLT, Nat.reduceLeDiff, Nat.reduceAdd, Nat.reduceSub, Nat.reduceMul, Nat.reduceDiv, Nat.lt_irrefl, Nat.not_lt_zero, Nat.zero_le, Nat.one_ne_zero, Nat.succ_ne_zero,  lt_def, i32_lit, reduceIte, P_isIn_eq, M_isIn_eq, M_goes_eq, or_false, false_or, or_true, true_or, and_true, true_and, and_false, false_and, not_true, not_false_eq_true, eq_self, if_true, if_false, not_or, not_and, Nat.not_lt, Nat.not_le, io_lt, h0, h1, e1, io_eq, ix_io, gI_sI, gI_sA, gI_sL, gI_sJ, gI_sR, gI_sQ, gI_sD, gI_sN, gI_sz, gA_sI, gA_sA, gA_sL, gA_sJ, gA_sR, gA_sQ, gA_sD, gA_sN, gA_sz, gL_sI, gL_sA, gL_sL, gL_sJ, gL_sR, gL_sQ, gL_sD, gL_sN, gL_sz, gJ_sI, gJ_sA, gJ_sL, gJ_sJ, gJ_sR, gJ_sQ, gJ_sD, gJ_sN, gJ_sz, gR_sI, gR_sA, gR_sL, gR_sJ, gR_sR, gR_sQ, gR_sD, gR_sN, gR_sz, gQ_sI, gQ_sA, gQ_sL, gQ_sJ, gQ_sR, gQ_sQ, gQ_sD, gQ_sN, gQ_sz, gD_sI, gD_sA, gD_sL, gD_sJ, gD_sR, gD_sQ, gD_sD, gD_sN, gD_sz, sz_sI, sz_sA, sz_sL, sz_sJ, sz_sR, sz_sQ, sz_sD, sz_sN, sz_sz, io_add]
  · show _ = io (ups (xq a) c q i) ∧ _ = io (ups (xt a) c h i) ∧ _ = io (ups (xa a) c 0 i) ∧ (i < w → _ = io (ups (xp a) c 0 i - 1) ∧ _ = io (ups (xu a) c 0 i))
    unfold ups
    simp only [gI_sI, gI_sA, gI_sL, gI_sJ, gI_sR, gI_sQ, gI_sD, gI_sN, gI_sz, gA_sI, gA_sA, gA_sL, gA_sJ, gA_sR, gA_sQ, gA_sD, gA_sN, gA_sz, gL_sI, gL_sA, gL_sL, gL_sJ, gL_sR, gL_sQ, gL_sD, gL_sN, gL_sz, gJ_sI, gJ_sA, gJ_sL, gJ_sJ, gJ_sR, gJ_sQ, gJ_sD, gJ_sN, gJ_sz, gR_sI, gR_sA, gR_sL, gR_sJ, gR_sR, gR_sQ, gR_sD, gR_sN, gR_sz, gQ_sI, gQ_sA, gQ_sL, gQ_sJ, gQ_sR, gQ_sQ, gQ_sD, gQ_sN, gQ_sz, gD_sI, gD_sA, gD_sL, gD_sJ, gD_sR, gD_sQ, gD_sD, gD_sN, gD_sz, sz_sI, sz_sA, sz_sL, sz_sJ, sz_sR, sz_sQ, sz_sD, sz_sN, sz_sz, reduceIte, Nat.reduceEqDiff]
    by_cases e : i = c
    · simp only [e, reduceIte]
      exact ⟨trivial, trivial, C.2.2.1 c (Nat.le_refl _) hc, fun hw => by omega⟩
    · simp only [e, reduceIte]
      exact C.2.2.2 i (by omega)
theorem M_raise {F h n r c w q : Nat} {s : St} {a : AG} {x : Int32} (hh : h ≤ 1000) (hn : n ≤ 8) (M : ALm s a c) (G : ALg a h n r c w) (hc : c < 4000) (hq : q < r) (e2 : gI s 2526 = io h) (hx : nob n x) (ex : gA s 58 (h / 8) = x) (hw : x = -io 1 ∨ w = c) : ∃ s', f_M_raises F s (io q) = some s' ∧ ALm s' (wkA (anew a c q h) w x h) (c + 1) ∧ (∀ i, gA s' 63 i = ups (gA s 63) q (io h) i) ∧ (∀ i, gA s' 64 i = ups (gA s 64) q (gA s 64 q + io 1) i) ∧ Fr [2546] [63, 64, 68] s s' := by
  have hr := G.2.1
  have hwc := G.2.2.1
  have e1 := M.1
  have hnb := new_bits (h := h) (show q < 4 by omega)
  have hm1 : ALm (sI (sA s 68 c (io (enc q h 0 0 0))) 2546 (io (c + 1))) (anew a c q h) (c + 1) := by
    refine ⟨rfl, fun i hi => ?_⟩
    show _ = io (enc (ups (xq a) c q i) (ups (xt a) c h i) (ups (xp a) c 0 i) (ups (xu a) c 0 i) (ups (xa a) c 0 i))
    unfold ups
    simp only [gI_sI, gI_sA, gI_sL, gI_sJ, gI_sR, gI_sQ, gI_sD, gI_sN, gI_sz, gA_sI, gA_sA, gA_sL, gA_sJ, gA_sR, gA_sQ, gA_sD, gA_sN, gA_sz, gL_sI, gL_sA, gL_sL, gL_sJ, gL_sR, gL_sQ, gL_sD, gL_sN, gL_sz, gJ_sI, gJ_sA, gJ_sL, gJ_sJ, gJ_sR, gJ_sQ, gJ_sD, gJ_sN, gJ_sz, gR_sI, gR_sA, gR_sL, gR_sJ, gR_sR, gR_sQ, gR_sD, gR_sN, gR_sz, gQ_sI, gQ_sA, gQ_sL, gQ_sJ, gQ_sR, gQ_sQ, gQ_sD, gQ_sN, gQ_sz, gD_sI, gD_sA, gD_sL, gD_sJ, gD_sR, gD_sQ, gD_sD, gD_sN, gD_sz, sz_sI, sz_sA, sz_sL, sz_sJ, sz_sR, sz_sQ, sz_sD, sz_sN, sz_sz, reduceIte, Nat.reduceEqDiff]
    by_cases e : i = c
    · simp only [e, reduceIte]
    · simp only [e, reduceIte]
      exact M.2 i (by omega)
  rcases hx with rfl | ⟨p, hp, rfl⟩
  · refine ⟨sA (sA (sI (sA s 68 c (io (enc q h 0 0 0))) 2546 (io (c + 1))) 63 q (io h)) 64 q (gA s 64 q + io 1), ?_, ?_, fun i => ?_, fun i => ?_, (((Fr.rf.A (by decide)).I (by decide)).A (by decide)).A (by decide)⟩
    · simp (disch := omega) only [f_M_raises, Option.bind_some, Nat.reduceEqDiff, Nat.add_zero, Nat.zero_add, Nat.reduceLT, Nat.reduceLeDiff, Nat.reduceAdd, Nat.reduceSub, Nat.reduceMul, Nat.reduceDiv, Nat.lt_irrefl, Nat.not_lt_zero, Nat.zero_le, Nat.one_ne_zero, Nat.succ_ne_zero,  lt_def, i32_lit, reduceIte, P_isIn_eq, M_isIn_eq, M_goes_eq, or_false, false_or, or_true, true_or, and_true, true_and, and_false, false_and, not_true, not_false_eq_true, eq_self, if_true, if_false, not_or, not_and, Nat.not_lt, Nat.not_le, gI_sI, gI_sA, gI_sL, gI_sJ, gI_sR, gI_sQ, gI_sD, gI_sN, gI_sz, gA_sI, gA_sA, gA_sL, gA_sJ, gA_sR, gA_sQ, gA_sD, gA_sN, gA_sz, gL_sI, gL_sA, gL_sL, gL_sJ, gL_sR, gL_sQ, gL_sD, gL_sN, gL_sz, gJ_sI, gJ_sA, gJ_sL, gJ_sJ, gJ_sR, gJ_sQ, gJ_sD, gJ_sN, gJ_sz, gR_sI, gR_sA, gR_sL, gR_sJ, gR_sR, gR_sQ, gR_sD, gR_sN, gR_sz, gQ_sI, gQ_sA, gQ_sL, gQ_sJ, gQ_sR, gQ_sQ, gQ_sD, gQ_sN, gQ_sz, gD_sI, gD_sA, gD_sL, gD_sJ, gD_sR, gD_sQ, gD_sD, gD_sN, gD_sz, sz_sI, sz_sA, sz_sL, sz_sJ, sz_sR, sz_sQ, sz_sD, sz_sN, sz_sz, ix_io, e1, e2, and31, io_and, io_shl, io_or, hnb, io_add, io_div, ex]
    · unfold wkA; rw [if_pos rfl]; exact hm1
    · simp only [gI_sI, gI_sA, gI_sL, gI_sJ, gI_sR, gI_sQ, gI_sD, gI_sN, gI_sz, gA_sI, gA_sA, gA_sL, gA_sJ, gA_sR, gA_sQ, gA_sD, gA_sN, gA_sz, gL_sI, gL_sA, gL_sL, gL_sJ, gL_sR, gL_sQ, gL_sD, gL_sN, gL_sz, gJ_sI, gJ_sA, gJ_sL, gJ_sJ, gJ_sR, gJ_sQ, gJ_sD, gJ_sN, gJ_sz, gR_sI, gR_sA, gR_sL, gR_sJ, gR_sR, gR_sQ, gR_sD, gR_sN, gR_sz, gQ_sI, gQ_sA, gQ_sL, gQ_sJ, gQ_sR, gQ_sQ, gQ_sD, gQ_sN, gQ_sz, gD_sI, gD_sA, gD_sL, gD_sJ, gD_sR, gD_sQ, gD_sD, gD_sN, gD_sz, sz_sI, sz_sA, sz_sL, sz_sJ, sz_sR, sz_sQ, sz_sD, sz_sN, sz_sz, reduceIte, Nat.reduceEqDiff]; rfl
    · simp only [gI_sI, gI_sA, gI_sL, gI_sJ, gI_sR, gI_sQ, gI_sD, gI_sN, gI_sz, gA_sI, gA_sA, gA_sL, gA_sJ, gA_sR, gA_sQ, gA_sD, gA_sN, gA_sz, gL_sI, gL_sA, gL_sL, gL_sJ, gL_sR, gL_sQ, gL_sD, gL_sN, gL_sz, gJ_sI, gJ_sA, gJ_sL, gJ_sJ, gJ_sR, gJ_sQ, gJ_sD, gJ_sN, gJ_sz, gR_sI, gR_sA, gR_sL, gR_sJ, gR_sR, gR_sQ, gR_sD, gR_sN, gR_sz, gQ_sI, gQ_sA, gQ_sL, gQ_sJ, gQ_sR, gQ_sQ, gQ_sD, gQ_sN, gQ_sz, gD_sI, gD_sA, gD_sL, gD_sJ, gD_sR, gD_sQ, gD_sD, gD_sN, gD_sz, sz_sI, sz_sA, sz_sL, sz_sJ, sz_sR, sz_sQ, sz_sD, sz_sN, sz_sz, reduceIte, Nat.reduceEqDiff]; rfl
  · have hne : ¬ io p = -io 1 := by rw [io_neg1 (by omega)]; exact id
    have hwc' : w = c := hw.resolve_left hne
    have hwk := wakes_eq (F := F) (s := sA (sA (sI (sA s 68 c (io (enc q h 0 0 0))) 2546 (io (c + 1))) 63 q (io h)) 64 q (gA s 64 q + io 1)) (i := c) (q := q) (t := h) (p := p) (h := h) hc (by simp only [gI_sI, gI_sA, gI_sL, gI_sJ, gI_sR, gI_sQ, gI_sD, gI_sN, gI_sz, gA_sI, gA_sA, gA_sL, gA_sJ, gA_sR, gA_sQ, gA_sD, gA_sN, gA_sz, gL_sI, gL_sA, gL_sL, gL_sJ, gL_sR, gL_sQ, gL_sD, gL_sN, gL_sz, gJ_sI, gJ_sA, gJ_sL, gJ_sJ, gJ_sR, gJ_sQ, gJ_sD, gJ_sN, gJ_sz, gR_sI, gR_sA, gR_sL, gR_sJ, gR_sR, gR_sQ, gR_sD, gR_sN, gR_sz, gQ_sI, gQ_sA, gQ_sL, gQ_sJ, gQ_sR, gQ_sQ, gQ_sD, gQ_sN, gQ_sz, gD_sI, gD_sA, gD_sL, gD_sJ, gD_sR, gD_sQ, gD_sD, gD_sN, gD_sz, sz_sI, sz_sA, sz_sL, sz_sJ, sz_sR, sz_sQ, sz_sD, sz_sN, sz_sz, reduceIte, Nat.reduceEqDiff]) e2 (by omega) hh (by omega) hh
    refine ⟨sA (sA (sA (sI (sA s 68 c (io (enc q h 0 0 0))) 2546 (io (c + 1))) 63 q (io h)) 64 q (gA s 64 q + io 1)) 68 c (io (enc q h (p + 1) h 0)), ?_, ?_, fun i => ?_, fun i => ?_, ((((Fr.rf.A (by decide)).I (by decide)).A (by decide)).A (by decide)).A (by decide)⟩
    · simp (disch := omega) only [f_M_raises, Option.bind_some, Nat.reduceEqDiff, Nat.add_zero, Nat.zero_add, Nat.reduceLT, Nat.reduceLeDiff, Nat.reduceAdd, Nat.reduceSub, Nat.reduceMul, Nat.reduceDiv, Nat.lt_irrefl, Nat.not_lt_zero, Nat.zero_le, Nat.one_ne_zero, Nat.succ_ne_zero,  lt_def, i32_lit, reduceIte, P_isIn_eq, M_isIn_eq, M_goes_eq, or_false, false_or, or_true, true_or, and_true, true_and, and_false, false_and, not_true, not_false_eq_true, eq_self, if_true, if_false, not_or, not_and, Nat.not_lt, Nat.not_le, gI_sI, gI_sA, gI_sL, gI_sJ, gI_sR, gI_sQ, gI_sD, gI_sN, gI_sz, gA_sI, gA_sA, gA_sL, gA_sJ, gA_sR, gA_sQ, gA_sD, gA_sN, gA_sz, gL_sI, gL_sA, gL_sL, gL_sJ, gL_sR, gL_sQ, gL_sD, gL_sN, gL_sz, gJ_sI, gJ_sA, gJ_sL, gJ_sJ, gJ_sR, gJ_sQ, gJ_sD, gJ_sN, gJ_sz, gR_sI, gR_sA, gR_sL, gR_sJ, gR_sR, gR_sQ, gR_sD, gR_sN, gR_sz, gQ_sI, gQ_sA, gQ_sL, gQ_sJ, gQ_sR, gQ_sQ, gQ_sD, gQ_sN, gQ_sz, gD_sI, gD_sA, gD_sL, gD_sJ, gD_sR, gD_sQ, gD_sD, gD_sN, gD_sz, sz_sI, sz_sA, sz_sL, sz_sJ, sz_sR, sz_sQ, sz_sD, sz_sN, sz_sz, ix_io, e1, e2, and31, io_and, io_shl, io_or, hnb, io_add, io_div, ex, hne, io_sub, Nat.add_sub_cancel, hwk]
    · unfold wkA
      rw [if_neg hne, cl_io (by omega)]
      refine ⟨rfl, fun i hi => ?_⟩
      have := hm1.2 i hi
      show _ = io (enc (xq (anew a c q h) i) (xt (anew a c q h) i) (if w ≤ i then p + 1 else xp (anew a c q h) i) (if w ≤ i then h else xu (anew a c q h) i) (xa (anew a c q h) i))
      simp only [gI_sI, gI_sA, gI_sL, gI_sJ, gI_sR, gI_sQ, gI_sD, gI_sN, gI_sz, gA_sI, gA_sA, gA_sL, gA_sJ, gA_sR, gA_sQ, gA_sD, gA_sN, gA_sz, gL_sI, gL_sA, gL_sL, gL_sJ, gL_sR, gL_sQ, gL_sD, gL_sN, gL_sz, gJ_sI, gJ_sA, gJ_sL, gJ_sJ, gJ_sR, gJ_sQ, gJ_sD, gJ_sN, gJ_sz, gR_sI, gR_sA, gR_sL, gR_sJ, gR_sR, gR_sQ, gR_sD, gR_sN, gR_sz, gQ_sI, gQ_sA, gQ_sL, gQ_sJ, gQ_sR, gQ_sQ, gQ_sD, gQ_sN, gQ_sz, gD_sI, gD_sA, gD_sL, gD_sJ, gD_sR, gD_sQ, gD_sD, gD_sN, gD_sz, sz_sI, sz_sA, sz_sL, sz_sJ, sz_sR, sz_sQ, sz_sD, sz_sN, sz_sz, reduceIte, Nat.reduceEqDiff] at this ⊢
      by_cases e : i = c
      · subst e
        rw [if_pos rfl, if_pos (by omega), if_pos (by omega)]
        show _ = io (enc (ups (xq a) i q i) (ups (xt a) i h i) (p + 1) h (ups (xa a) i 0 i))
        unfold ups
        simp only [reduceIte]
      · rw [if_neg e, if_neg e, if_neg (by omega), if_neg (by omega)]
        rw [if_neg e] at this
        exact this
    · simp only [gI_sI, gI_sA, gI_sL, gI_sJ, gI_sR, gI_sQ, gI_sD, gI_sN, gI_sz, gA_sI, gA_sA, gA_sL, gA_sJ, gA_sR, gA_sQ, gA_sD, gA_sN, gA_sz, gL_sI, gL_sA, gL_sL, gL_sJ, gL_sR, gL_sQ, gL_sD, gL_sN, gL_sz, gJ_sI, gJ_sA, gJ_sL, gJ_sJ, gJ_sR, gJ_sQ, gJ_sD, gJ_sN, gJ_sz, gR_sI, gR_sA, gR_sL, gR_sJ, gR_sR, gR_sQ, gR_sD, gR_sN, gR_sz, gQ_sI, gQ_sA, gQ_sL, gQ_sJ, gQ_sR, gQ_sQ, gQ_sD, gQ_sN, gQ_sz, gD_sI, gD_sA, gD_sL, gD_sJ, gD_sR, gD_sQ, gD_sD, gD_sN, gD_sz, sz_sI, sz_sA, sz_sL, sz_sJ, sz_sR, sz_sQ, sz_sD, sz_sN, sz_sz, reduceIte, Nat.reduceEqDiff]; rfl
    · simp only [gI_sI, gI_sA, gI_sL, gI_sJ, gI_sR, gI_sQ, gI_sD, gI_sN, gI_sz, gA_sI, gA_sA, gA_sL, gA_sJ, gA_sR, gA_sQ, gA_sD, gA_sN, gA_sz, gL_sI, gL_sA, gL_sL, gL_sJ, gL_sR, gL_sQ, gL_sD, gL_sN, gL_sz, gJ_sI, gJ_sA, gJ_sL, gJ_sJ, gJ_sR, gJ_sQ, gJ_sD, gJ_sN, gJ_sz, gR_sI, gR_sA, gR_sL, gR_sJ, gR_sR, gR_sQ, gR_sD, gR_sN, gR_sz, gQ_sI, gQ_sA, gQ_sL, gQ_sJ, gQ_sR, gQ_sQ, gQ_sD, gQ_sN, gQ_sz, gD_sI, gD_sA, gD_sL, gD_sJ, gD_sR, gD_sQ, gD_sD, gD_sN, gD_sz, sz_sI, sz_sA, sz_sL, sz_sJ, sz_sR, sz_sQ, sz_sD, sz_sN, sz_sz, reduceIte, Nat.reduceEqDiff]; rfl
