/-! the model reads a choice -/
def TL2 (F n : Nat) (t : Nat → Nat) (m : Nat) (s : St) (j : Nat) : Option (Int32 × St) := if n ≤ j then f_M_turns_b90 F s else (f_M_reads_b31 F s (io (t j))).bind (fun x => if x.1 = io 0 then some (io j, x.2) else f_M_turns_b49 F (m - 1) x.2 (io (j + 1)))
theorem TL_2 {F n m j st : Nat} {t : Nat → Nat} {s : St} (T : TXT t n) (M : MT t n s) (hm : 1 ≤ m) (hj : j ≤ n) (hs : gI s 2505 = io st) (h1 : st ≠ 1) (h2 : st ≠ 10) (h3 : st < 1000) : f_M_turns_b49 F m s (io j) = TL2 F n t m s j := by
  obtain ⟨m, rfl⟩ : ∃ m', m = m' + 1 := ⟨m - 1, by omega⟩
  have hn := T.1
  unfold TL2
  by_cases h : n ≤ j
  · rw [if_pos h]
    simp (disch := omega) only [f_M_turns_b49, Option.bind_some, Nat.reduceEqDiff, Nat.add_zero, Nat.zero_add, Nat.reduceLT, Nat.reduceLeDiff, Nat.reduceAdd, Nat.reduceSub, Nat.reduceMul, Nat.reduceDiv, Nat.lt_irrefl, Nat.not_lt_zero, Nat.zero_le, Nat.one_ne_zero, Nat.succ_ne_zero,  lt_def, i32_lit, reduceIte, P_isIn_eq, M_isIn_eq, M_goes_eq, or_false, false_or, or_true, true_or, and_true, true_and, and_false, false_and, not_true, not_false_eq_true, eq_self, if_true, if_false, not_or, not_and, Nat.not_lt, Nat.not_le, M.1, io_le, h, hs, io_eq, h1]
  · rw [if_neg h]
    have e := M.2 j (by omega)
    simp (disch := omega) only [f_M_turns_b49, f_M_reads, Option.bind_some, Nat.reduceEqDiff, Nat.add_zero, Nat.zero_add, Nat.reduceLT, Nat.reduceLeDiff, Nat.reduceAdd, Nat.reduceSub, Nat.reduceMul, Nat.reduceDiv, Nat.lt_irrefl, Nat.not_lt_zero, Nat.zero_le, Nat.one_ne_zero, Nat.succ_ne_zero,  lt_def, i32_lit, reduceIte, P_isIn_eq, M_isIn_eq, M_goes_eq, or_false, false_or, or_true, true_or, and_true, true_and, and_false, false_and, not_true, not_false_eq_true, eq_self, if_true, if_false, not_or, not_and, Nat.not_lt, Nat.not_le, M.1, io_le, h, hs, io_eq, h1, h2, ix_io, e, io_add, Nat.add_sub_cancel]
theorem TL_step {F n m j st : Nat} {t : Nat → Nat} {s s' : St} (T : TXT t n) (M : MT t n s') (hj : j < n) (hm : n + 2 ≤ m + j) (h : f_M_reads_b31 F s (io (t j)) = some (io 1, s')) (hs : gI s' 2505 = io st) (h1 : st ≠ 1) (h2 : st ≠ 10) (h3 : st < 1000) : TL2 F n t m s j = TL2 F n t (m - 1) s' (j + 1) := by
  rw [← TL_2 (F := F) (m := m - 1) T M (by omega) (by omega) hs h1 h2 h3]
  unfold TL2
  rw [if_neg (by omega), h, Option.bind_some, if_neg (by rw [io_eq (by omega) (by omega)]; decide)]
theorem TL_stepN {F n m j : Nat} {t : Nat → Nat} {s s' : St} (hj : j < n) (h : f_M_reads_b31 F s (io (t j)) = some (io 1, s')) : TL2 F n t m s j = f_M_turns_b49 F (m - 1) s' (io (j + 1)) := by
  unfold TL2
  rw [if_neg (by omega), h, Option.bind_some, if_neg (by rw [io_eq (by omega) (by omega)]; decide)]
theorem TL_end {F n m st : Nat} {t : Nat → Nat} {s : St} (M : MT t n s) (hs : gI s 2505 = io st) (h1 : st ≠ 2) (h3 : st < 1000) : TL2 F n t m s n = some (io n, s) := by
  unfold TL2
  rw [if_pos (Nat.le_refl _)]
  simp (disch := omega) only [f_M_turns_b90, Option.bind_some, Nat.reduceEqDiff, Nat.add_zero, Nat.zero_add, Nat.reduceLT, Nat.reduceLeDiff, Nat.reduceAdd, Nat.reduceSub, Nat.reduceMul, Nat.reduceDiv, Nat.lt_irrefl, Nat.not_lt_zero, Nat.zero_le, Nat.one_ne_zero, Nat.succ_ne_zero,  lt_def, i32_lit, reduceIte, P_isIn_eq, M_isIn_eq, M_goes_eq, or_false, false_or, or_true, true_or, and_true, true_and, and_false, false_and, not_true, not_false_eq_true, eq_self, if_true, if_false, not_or, not_and, Nat.not_lt, Nat.not_le, hs, io_eq, h1, M.1]
theorem TL_fail {E : List Nat} {F n m j st p : Nat} {t : Nat → Nat} {s : St} (M : MT t n s) (hj : j ≤ n) (hs : gI s 2505 = io st) (h1 : st ≠ 2) (h3 : st < 1000) (h : j < n → ∃ s', f_M_reads_b31 F s (io (t j)) = some (io 0, s') ∧ FM E p s s') : ∃ s', TL2 F n t m s j = some (io j, s') ∧ FM E p s s' := by
  by_cases hjn : j < n
  · obtain ⟨s', e1, e2⟩ := h hjn
    refine ⟨s', ?_, e2⟩
    unfold TL2
    rw [if_neg (by omega), e1, Option.bind_some, if_pos rfl]
  · have : j = n := by omega
    subst this
    exact ⟨s, TL_end M hs h1 h3, FM.rf⟩
theorem isFigure_eq {F c : Nat} {s : St} (hc : c < 1000) : f_M_isFigure F s (io c) = some (if dgt c = true then io 1 else io 0, s) := by
  unfold dgt
  by_cases h1 : c < 48
  · have h2 : ¬ (48 ≤ c ∧ c ≤ 57) := by omega
    simp (disch := omega) only [f_M_isFigure, Option.bind_some, Nat.reduceEqDiff, Nat.add_zero, Nat.zero_add, Nat.reduceLT, Nat.reduceLeDiff, Nat.reduceAdd, Nat.reduceSub, Nat.reduceMul, Nat.reduceDiv, Nat.lt_irrefl, Nat.not_lt_zero, Nat.zero_le, Nat.one_ne_zero, Nat.succ_ne_zero,  lt_def, i32_lit, reduceIte, P_isIn_eq, M_isIn_eq, M_goes_eq, or_false, false_or, or_true, true_or, and_true, true_and, and_false, false_and, not_true, not_false_eq_true, eq_self, if_true, if_false, not_or, not_and, Nat.not_lt, Nat.not_le, io_lt, io_eq, h1, h2, decide_false, Bool.false_eq_true]
  · by_cases h3 : 57 < c
    · have h2 : ¬ (48 ≤ c ∧ c ≤ 57) := by omega
      simp (disch := omega) only [f_M_isFigure, Option.bind_some, Nat.reduceEqDiff, Nat.add_zero, Nat.zero_add, Nat.reduceLT, Nat.reduceLeDiff, Nat.reduceAdd, Nat.reduceSub, Nat.reduceMul, Nat.reduceDiv, Nat.lt_irrefl, Nat.not_lt_zero, Nat.zero_le, Nat.one_ne_zero, Nat.succ_ne_zero,  lt_def, i32_lit, reduceIte, P_isIn_eq, M_isIn_eq, M_goes_eq, or_false, false_or, or_true, true_or, and_true, true_and, and_false, false_and, not_true, not_false_eq_true, eq_self, if_true, if_false, not_or, not_and, Nat.not_lt, Nat.not_le, io_lt, io_eq, h1, h2, h3, decide_false, Bool.false_eq_true]
    · have h2 : 48 ≤ c ∧ c ≤ 57 := by omega
      simp (disch := omega) only [f_M_isFigure, Option.bind_some, Nat.reduceEqDiff, Nat.add_zero, Nat.zero_add, Nat.reduceLT, Nat.reduceLeDiff, Nat.reduceAdd, Nat.reduceSub, Nat.reduceMul, Nat.reduceDiv, Nat.lt_irrefl, Nat.not_lt_zero, Nat.zero_le, Nat.one_ne_zero, Nat.succ_ne_zero,  lt_def, i32_lit, reduceIte, P_isIn_eq, M_isIn_eq, M_goes_eq, or_false, false_or, or_true, true_or, and_true, true_and, and_false, false_and, not_true, not_false_eq_true, eq_self, if_true, if_false, not_or, not_and, Nat.not_lt, Nat.not_le, io_lt, io_eq, h1, h2, h3, decide_true, and_self]
def fxM (f : Nat) : Nat := if f = 112 then 0 else if f = 108 then 1 else if f = 118 then 2 else 3
theorem fxM_le (f : Nat) : fxM f ≤ 3 := by unfold fxM; repeat (first | omega | split)
theorem fieldM_eq {F c : Nat} {s : St} (hc : c < 1000) : f_M_fieldOf F s (io c) = some (if fdc c = true then io (fxM c) else -io 1, s) := by
  unfold fdc fxM
  by_cases h1 : c = 112
  · subst h1; simp (disch := omega) only [f_M_fieldOf, Option.bind_some, Nat.reduceEqDiff, Nat.add_zero, Nat.zero_add, Nat.reduceLT, Nat.reduceLeDiff, Nat.reduceAdd, Nat.reduceSub, Nat.reduceMul, Nat.reduceDiv, Nat.lt_irrefl, Nat.not_lt_zero, Nat.zero_le, Nat.one_ne_zero, Nat.succ_ne_zero,  lt_def, i32_lit, reduceIte, P_isIn_eq, M_isIn_eq, M_goes_eq, or_false, false_or, or_true, true_or, and_true, true_and, and_false, false_and, not_true, not_false_eq_true, eq_self, if_true, if_false, not_or, not_and, Nat.not_lt, Nat.not_le, io_eq, decide_true]
  · by_cases h2 : c = 108
    · subst h2; simp (disch := omega) only [f_M_fieldOf, Option.bind_some, Nat.reduceEqDiff, Nat.add_zero, Nat.zero_add, Nat.reduceLT, Nat.reduceLeDiff, Nat.reduceAdd, Nat.reduceSub, Nat.reduceMul, Nat.reduceDiv, Nat.lt_irrefl, Nat.not_lt_zero, Nat.zero_le, Nat.one_ne_zero, Nat.succ_ne_zero,  lt_def, i32_lit, reduceIte, P_isIn_eq, M_isIn_eq, M_goes_eq, or_false, false_or, or_true, true_or, and_true, true_and, and_false, false_and, not_true, not_false_eq_true, eq_self, if_true, if_false, not_or, not_and, Nat.not_lt, Nat.not_le, io_eq, decide_true]
    · by_cases h3 : c = 118
      · subst h3; simp (disch := omega) only [f_M_fieldOf, Option.bind_some, Nat.reduceEqDiff, Nat.add_zero, Nat.zero_add, Nat.reduceLT, Nat.reduceLeDiff, Nat.reduceAdd, Nat.reduceSub, Nat.reduceMul, Nat.reduceDiv, Nat.lt_irrefl, Nat.not_lt_zero, Nat.zero_le, Nat.one_ne_zero, Nat.succ_ne_zero,  lt_def, i32_lit, reduceIte, P_isIn_eq, M_isIn_eq, M_goes_eq, or_false, false_or, or_true, true_or, and_true, true_and, and_false, false_and, not_true, not_false_eq_true, eq_self, if_true, if_false, not_or, not_and, Nat.not_lt, Nat.not_le, io_eq, decide_true]
      · by_cases h4 : c = 104
        · subst h4; simp (disch := omega) only [f_M_fieldOf, Option.bind_some, Nat.reduceEqDiff, Nat.add_zero, Nat.zero_add, Nat.reduceLT, Nat.reduceLeDiff, Nat.reduceAdd, Nat.reduceSub, Nat.reduceMul, Nat.reduceDiv, Nat.lt_irrefl, Nat.not_lt_zero, Nat.zero_le, Nat.one_ne_zero, Nat.succ_ne_zero,  lt_def, i32_lit, reduceIte, P_isIn_eq, M_isIn_eq, M_goes_eq, or_false, false_or, or_true, true_or, and_true, true_and, and_false, false_and, not_true, not_false_eq_true, eq_self, if_true, if_false, not_or, not_and, Nat.not_lt, Nat.not_le, io_eq, decide_true]
        · simp (disch := omega) only [f_M_fieldOf, Option.bind_some, Nat.reduceEqDiff, Nat.add_zero, Nat.zero_add, Nat.reduceLT, Nat.reduceLeDiff, Nat.reduceAdd, Nat.reduceSub, Nat.reduceMul, Nat.reduceDiv, Nat.lt_irrefl, Nat.not_lt_zero, Nat.zero_le, Nat.one_ne_zero, Nat.succ_ne_zero,  lt_def, i32_lit, reduceIte, P_isIn_eq, M_isIn_eq, M_goes_eq, or_false, false_or, or_true, true_or, and_true, true_and, and_false, false_and, not_true, not_false_eq_true, eq_self, if_true, if_false, not_or, not_and, Nat.not_lt, Nat.not_le, io_eq, h1, h2, h3, h4, decide_false, Bool.false_eq_true, or_self]
theorem rkM_cmc {c : Nat} : (rkM c = 1) = (cmc c = true) := by
  unfold rkM cmc
  rw [decide_eq_true_eq]
  apply propext
  by_cases h1 : c = 42 ∨ c = 47
  · rw [if_pos h1]; omega
  · rw [if_neg h1]
    by_cases h2 : c = 43 ∨ c = 45
    · rw [if_pos h2]; omega
    · rw [if_neg h2]
      by_cases h3 : c = 60 ∨ c = 62 ∨ c = 61
      · rw [if_pos h3]; omega
      · rw [if_neg h3]; omega
/-- how the model writes a term -/
def askE (x : CT) : PR := if cmc x.1 = true then (4, fxM x.2.1 + 4 * x.1 + 1024 * (if x.2.2.2 = 1 then 10000 - x.2.2.1 else 10000 + x.2.2.1)) else (x.1, 0)
theorem ask_bits {f g y : Nat} (hf : f < 4) (hg : g < 256) : (f ||| g <<< 2) ||| y <<< 10 = f + 4 * g + 1024 * y := by
  have e1 : f ||| g <<< 2 = g <<< 2 + f := by rw [Nat.or_comm, Nat.shiftLeft_add_eq_or_of_lt (by omega)]
  have e2 : g <<< 2 = 4 * g := by rw [Nat.shiftLeft_eq]; omega
  have e3 : y <<< 10 = 1024 * y := by rw [Nat.shiftLeft_eq]; omega
  have h : f ||| g <<< 2 < 2 ^ 10 := by rw [e1, e2]; omega
  rw [Nat.or_comm, ← Nat.shiftLeft_add_eq_or_of_lt h, e1, e2, e3]
  omega
def EC : List Nat := [2505, 2506, 2507, 2508, 2512, 2513, 2517, 2519]
def CQ (t : Nat → Nat) (n p : Nat) (w : List Nat) (c : List PR) (cm : Nat) (cl : List Nat) (lv st : Nat) (a : List PR) (v : List Nat) (s : St) : Prop := MB s p w c a cm cl ∧ MA s v lv ∧ gI s 2505 = io st ∧ MT t n s ∧ ltq v
def RC (F : Nat) (t : Nat → Nat) (n p : Nat) (w : List Nat) (c : List PR) (cm : Nat) (cl : List Nat) (lv : Nat) (DN : List CT → List PR → List Nat → Prop) (x : Option (Int32 × St)) (s : St) (mi : Nat) (r : Option (List CT) × Nat) : Prop :=
  (r.1 = none → ∃ s', x = some (io r.2, s') ∧ FM EC p s s') ∧ ∀ cc, r.1 = some cc →
    (∃ s' m' a' v', x = TL2 F n t m' s' r.2 ∧ m' + r.2 = mi ∧ FM EC p s s' ∧ CQ t n p w c cm cl lv 11 a' v' s' ∧ DN cc a' v') ∨ (r.2 = n ∧ ∃ s', x = some (io n, s') ∧ FM EC p s s')
def DN5 (a : List PR) (v : List Nat) (cc : List CT) (a' : List PR) (v' : List Nat) : Prop := v' = (flT v (a ++ cc.map askE)).1 ∧ a' = (flT v (a ++ cc.map askE)).2
def DNr (r : Nat) (a : List PR) (v : List Nat) (cc : List CT) (a' : List PR) (v' : List Nat) : Prop := ∃ pd : List Nat, v' = pd ++ v ∧ a' ++ pd.map (fun x => (x, 0)) = a ++ cc.map askE ∧ ∀ x ∈ pd, r ≤ arM x
def tpA (r : Nat) (v : List Nat) : Prop := ∀ x v', v = x :: v' → arM x < r ∧ x ≠ 33
section MCH
variable {F n p cm : Nat} {t : Nat → Nat} {w cl : List Nat} {c : List PR}
theorem RC.pre {lv mi : Nat} {DN : List CT → List PR → List Nat → Prop} {x : Option (Int32 × St)} {s s1 : St} {r : Option (List CT) × Nat} (h : RC F t n p w c cm cl lv DN x s1 mi r) (f : FM EC p s s1) : RC F t n p w c cm cl lv DN x s mi r := by
  refine ⟨fun hr => ?_, fun cc hc => ?_⟩
  · obtain ⟨s', e1, e2⟩ := h.1 hr
    exact ⟨s', e1, f.trans e2⟩
  · rcases h.2 cc hc with ⟨s', m', a', v', e1, e2, e3, e4⟩ | ⟨e0, s', e1, e2⟩
    · exact Or.inl ⟨s', m', a', v', e1, e2, f.trans e3, e4⟩
    · exact Or.inr ⟨e0, s', e1, f.trans e2⟩
theorem RC.fail {lv mi : Nat} {DN : List CT → List PR → List Nat → Prop} {x : Option (Int32 × St)} {s : St} {j : Nat} (h : ∃ s', x = some (io j, s') ∧ FM EC p s s') : RC F t n p w c cm cl lv DN x s mi (none, j) := ⟨fun _ => h, fun cc hc => by cases hc⟩
theorem endsNum_C {lv st f sg b v : Nat} {s : St} {a : List PR} {u : List Nat} (hF : 5000 ≤ F) (h10 : st ≠ 1) (hst : st < 1000) (K : CQ t n p w c cm cl lv st a u s) (ha : a.length + u.length ≤ 62) (e12 : gI s 2512 = io (fxM f)) (e13 : gI s 2513 = io sg) (e8 : gI s 2508 = io b) (e7 : gI s 2507 = io v) (hsg : cmc sg = true) (hv : v ≤ 9999) (hb : b ≤ 1) :
    ∃ s', f_M_endsNumber F s = some s' ∧ FM EC p s s' ∧ CQ t n p w c cm cl lv 11 (flT u (a ++ [askE (sg, f, v, b)])).2 (flT u (a ++ [askE (sg, f, v, b)])).1 s' := by
  obtain ⟨K1, K2, K3, K4, K5⟩ := K
  have hsl : sg < 256 := by unfold cmc at hsg; have := of_decide_eq_true hsg; omega
  have hf := fxM_le f
  have key : ∀ z, z = (if b = 1 then 10000 - v else 10000 + v) → ∃ s', (f_M_putsAsk F s (io 4) (io (fxM f + 4 * sg + 1024 * z))).bind (fun x => (f_M_endsTerm F x).bind (fun y => some y)) = some s' ∧ FM EC p s s' ∧ CQ t n p w c cm cl lv 11 (flT u (a ++ [askE (sg, f, v, b)])).2 (flT u (a ++ [askE (sg, f, v, b)])).1 s' := by
    intro z hz
    have ea : askE (sg, f, v, b) = (4, fxM f + 4 * sg + 1024 * z) := by unfold askE; rw [if_pos hsg, hz]
    have e1 := putsAsk_eq (F := F) (x := 4) (y := fxM f + 4 * sg + 1024 * z) K1 (by omega)
    obtain ⟨s', b1, b2, b3, b4, b5⟩ := endsTerm_eq (F := F) (lv := lv) u F _ _ (K1.ask (x := 4) (y := fxM f + 4 * sg + 1024 * z)) K2.ak K5 (by omega) (by rw [List.length_append]; show a.length + 1 + u.length ≤ 63; omega)
    rw [← ea] at b2 b3
    have b1' : f_M_endsTerm F (sAk s p a.length 4 (fxM f + 4 * sg + 1024 * z)) = some s' := b1
    have fm : FM EC p s s' := (FM.ak FM.rf (by omega)).trans (b5.wide (by decide))
    refine ⟨s', by rw [e1, Option.bind_some, b1', Option.bind_some], fm, b2, b3, b4, fm.mt K4 (by decide), (flT_len u _).2 K5⟩
  rcases (by omega : b = 0 ∨ b = 1) with rfl | rfl
  · obtain ⟨s', k1, k2⟩ := key (10000 + v) rfl
    refine ⟨s', ?_, k2⟩
    simp (disch := omega) only [f_M_endsNumber, Option.bind_some, Nat.reduceEqDiff, Nat.add_zero, Nat.zero_add, Nat.reduceLT, Nat.reduceLeDiff, Nat.reduceAdd, Nat.reduceSub, Nat.reduceMul, Nat.reduceDiv, Nat.lt_irrefl, Nat.not_lt_zero, Nat.zero_le, Nat.one_ne_zero, Nat.succ_ne_zero,  lt_def, i32_lit, reduceIte, P_isIn_eq, M_isIn_eq, M_goes_eq, or_false, false_or, or_true, true_or, and_true, true_and, and_false, false_and, not_true, not_false_eq_true, eq_self, if_true, if_false, not_or, not_and, Nat.not_lt, Nat.not_le, K3, io_eq, h10, e8, e12, e13, e7, and31, io_and, io_shl, io_add, io_or, ask_bits (show fxM f < 4 by omega) hsl]
    exact k1
  · obtain ⟨s', k1, k2⟩ := key (10000 - v) rfl
    refine ⟨s', ?_, k2⟩
    simp (disch := omega) only [f_M_endsNumber, Option.bind_some, Nat.reduceEqDiff, Nat.add_zero, Nat.zero_add, Nat.reduceLT, Nat.reduceLeDiff, Nat.reduceAdd, Nat.reduceSub, Nat.reduceMul, Nat.reduceDiv, Nat.lt_irrefl, Nat.not_lt_zero, Nat.zero_le, Nat.one_ne_zero, Nat.succ_ne_zero,  lt_def, i32_lit, reduceIte, P_isIn_eq, M_isIn_eq, M_goes_eq, or_false, false_or, or_true, true_or, and_true, true_and, and_false, false_and, not_true, not_false_eq_true, eq_self, if_true, if_false, not_or, not_and, Nat.not_lt, Nat.not_le, K3, io_eq, h10, e8, e12, e13, e7, and31, io_and, io_shl, io_sub, io_or, ask_bits (show fxM f < 4 by omega) hsl]
    exact k1
theorem digs_C {lv f sg b : Nat} {a : List PR} {u : List Nat} (hF : 5000 ≤ F) (T : TXT t n) (ha : a.length + u.length ≤ 62) (hsg : cmc sg = true) (hb : b ≤ 1) : ∀ k dg v i m s, dg + k = 4 → 1 ≤ dg → i ≤ n → n + 2 ≤ m + i → (nb t k v i).1 ≤ 9999 → CQ t n p w c cm cl lv 10 a u s → gI s 2506 = io dg → gI s 2507 = io v → gI s 2512 = io (fxM f) → gI s 2513 = io sg → gI s 2508 = io b →
    RC F t n p w c cm cl lv (DN5 a u) (f_M_turns_b49 F m s (io i)) s (m + i) (some [(sg, f, (nb t k v i).1, b)], (nb t k v i).2) := by
  have hn := T.1
  intro k
  induction k with
  | zero =>
    intro dg v i m s hk hdg hi hm hv K e6 e7 e12 e13 e8
    obtain ⟨m, rfl⟩ : ∃ m', m = m' + 1 := ⟨m - 1, by omega⟩
    have K3 := K.2.2.1
    have K4 := K.2.2.2.1
    refine ⟨fun h => (by cases h), fun cc hc => ?_⟩
    cases hc
    show _ ∨ (i = n ∧ _)
    by_cases hin : n ≤ i
    · refine Or.inr ⟨by omega, s, ?_, FM.rf⟩
      simp (disch := omega) only [f_M_turns_b49, f_M_turns_b90, Option.bind_some, Nat.reduceEqDiff, Nat.add_zero, Nat.zero_add, Nat.reduceLT, Nat.reduceLeDiff, Nat.reduceAdd, Nat.reduceSub, Nat.reduceMul, Nat.reduceDiv, Nat.lt_irrefl, Nat.not_lt_zero, Nat.zero_le, Nat.one_ne_zero, Nat.succ_ne_zero,  lt_def, i32_lit, reduceIte, P_isIn_eq, M_isIn_eq, M_goes_eq, or_false, false_or, or_true, true_or, and_true, true_and, and_false, false_and, not_true, not_false_eq_true, eq_self, if_true, if_false, not_or, not_and, Nat.not_lt, Nat.not_le, K4.1, io_le, hin, K3, io_eq]
    · obtain ⟨s', b1, b2, b3⟩ := endsNum_C (F := F) (st := 10) hF (by omega) (by omega) K ha e12 e13 e8 e7 hsg hv hb
      refine Or.inl ⟨s', m + 1, _, _, ?_, rfl, b2, b3, rfl, rfl⟩
      have e := K4.2 i (by omega)
      have hfig := isFigure_eq (F := F) (s := s) (tlt (i := i) T)
      have hdg4 : dg = 4 := by omega
      show _ = TL2 F n t (m + 1) s' i
      unfold TL2
      by_cases hd : dgt (t i) = true
      · rw [if_pos hd] at hfig
        simp (disch := omega) only [f_M_turns_b49, f_M_reads, f_M_goesOn, Option.bind_some, Nat.reduceEqDiff, Nat.add_zero, Nat.zero_add, Nat.reduceLT, Nat.reduceLeDiff, Nat.reduceAdd, Nat.reduceSub, Nat.reduceMul, Nat.reduceDiv, Nat.lt_irrefl, Nat.not_lt_zero, Nat.zero_le, Nat.one_ne_zero, Nat.succ_ne_zero,  lt_def, i32_lit, reduceIte, P_isIn_eq, M_isIn_eq, M_goes_eq, or_false, false_or, or_true, true_or, and_true, true_and, and_false, false_and, not_true, not_false_eq_true, eq_self, if_true, if_false, not_or, not_and, Nat.not_lt, Nat.not_le, K4.1, io_le, hin, K3, io_eq, ix_io, e, hfig, e6, hdg4, b1, io_add, Nat.add_sub_cancel]
      · rw [if_neg hd] at hfig
        simp (disch := omega) only [f_M_turns_b49, f_M_reads, f_M_goesOn, Option.bind_some, Nat.reduceEqDiff, Nat.add_zero, Nat.zero_add, Nat.reduceLT, Nat.reduceLeDiff, Nat.reduceAdd, Nat.reduceSub, Nat.reduceMul, Nat.reduceDiv, Nat.lt_irrefl, Nat.not_lt_zero, Nat.zero_le, Nat.one_ne_zero, Nat.succ_ne_zero,  lt_def, i32_lit, reduceIte, P_isIn_eq, M_isIn_eq, M_goes_eq, or_false, false_or, or_true, true_or, and_true, true_and, and_false, false_and, not_true, not_false_eq_true, eq_self, if_true, if_false, not_or, not_and, Nat.not_lt, Nat.not_le, K4.1, io_le, hin, K3, io_eq, ix_io, e, hfig, b1, io_add, Nat.add_sub_cancel]
  | succ k ih =>
    intro dg v i m s hk hdg hi hm hv K e6 e7 e12 e13 e8
    obtain ⟨m, rfl⟩ : ∃ m', m = m' + 1 := ⟨m - 1, by omega⟩
    have K3 := K.2.2.1
    have K4 := K.2.2.2.1
    unfold nb at hv ⊢
    by_cases hd : dgt (t i) = true
    · rw [if_pos hd] at hv ⊢
      have hin := T.bin hd
      have hin' : ¬ n ≤ i := by omega
      have h48 : 48 ≤ t i := by unfold dgt at hd; exact (of_decide_eq_true hd).1
      have e := K4.2 i hin
      have hfig := isFigure_eq (F := F) (s := s) (tlt (i := i) T)
      rw [if_pos hd] at hfig
      have hdg4 : ¬ dg = 4 := by omega
      obtain ⟨K1, K2, -, -, K5⟩ := K
      have fm : FM EC p s (sI (sI s 2507 (io (10 * v + (t i - 48)))) 2506 (io (dg + 1))) := (FM.rf.I (by decide)).I (by decide)
      have h := (ih (dg + 1) (10 * v + (t i - 48)) (i + 1) m (sI (sI s 2507 (io (10 * v + (t i - 48)))) 2506 (io (dg + 1))) (by omega) (by omega) hin (by omega) hv ⟨(K1.I).I, (K2.I).I, K3, K4, K5⟩ rfl rfl e12 e13 e8).pre fm
      rw [show m + (i + 1) = m + 1 + i by omega] at h
      have e9 : f_M_turns_b49 F (m + 1) s (io i) = f_M_turns_b49 F m (sI (sI s 2507 (io (10 * v + (t i - 48)))) 2506 (io (dg + 1))) (io (i + 1)) := by
        have e10 : io (10 * v + t i) - io 48 = io (10 * v + (t i - 48)) := by rw [io_sub (by omega)]; congr 1; omega
        simp (disch := omega) only [f_M_turns_b49, f_M_reads, f_M_goesOn, Option.bind_some, Nat.reduceEqDiff, Nat.add_zero, Nat.zero_add, Nat.reduceLT, Nat.reduceLeDiff, Nat.reduceAdd, Nat.reduceSub, Nat.reduceMul, Nat.reduceDiv, Nat.lt_irrefl, Nat.not_lt_zero, Nat.zero_le, Nat.one_ne_zero, Nat.succ_ne_zero,  lt_def, i32_lit, reduceIte, P_isIn_eq, M_isIn_eq, M_goes_eq, or_false, false_or, or_true, true_or, and_true, true_and, and_false, false_and, not_true, not_false_eq_true, eq_self, if_true, if_false, not_or, not_and, Nat.not_lt, Nat.not_le, K4.1, io_le, hin', K3, io_eq, ix_io, e, hfig, e6, e7, hdg4, io_add, io_mul, gI_sI, e10]
      rw [e9]
      exact h
    · rw [if_neg hd] at hv ⊢
      refine ⟨fun h => (by cases h), fun cc hc => ?_⟩
      cases hc
      show _ ∨ (i = n ∧ _)
      by_cases hin : n ≤ i
      · refine Or.inr ⟨by omega, s, ?_, FM.rf⟩
        simp (disch := omega) only [f_M_turns_b49, f_M_turns_b90, Option.bind_some, Nat.reduceEqDiff, Nat.add_zero, Nat.zero_add, Nat.reduceLT, Nat.reduceLeDiff, Nat.reduceAdd, Nat.reduceSub, Nat.reduceMul, Nat.reduceDiv, Nat.lt_irrefl, Nat.not_lt_zero, Nat.zero_le, Nat.one_ne_zero, Nat.succ_ne_zero,  lt_def, i32_lit, reduceIte, P_isIn_eq, M_isIn_eq, M_goes_eq, or_false, false_or, or_true, true_or, and_true, true_and, and_false, false_and, not_true, not_false_eq_true, eq_self, if_true, if_false, not_or, not_and, Nat.not_lt, Nat.not_le, K4.1, io_le, hin, K3, io_eq]
      · obtain ⟨s', b1, b2, b3⟩ := endsNum_C (F := F) (st := 10) hF (by omega) (by omega) K ha e12 e13 e8 e7 hsg hv hb
        refine Or.inl ⟨s', m + 1, _, _, ?_, rfl, b2, b3, rfl, rfl⟩
        have e := K4.2 i (by omega)
        have hfig := isFigure_eq (F := F) (s := s) (tlt (i := i) T)
        rw [if_neg hd] at hfig
        show _ = TL2 F n t (m + 1) s' i
        unfold TL2
        simp (disch := omega) only [f_M_turns_b49, f_M_reads, f_M_goesOn, Option.bind_some, Nat.reduceEqDiff, Nat.add_zero, Nat.zero_add, Nat.reduceLT, Nat.reduceLeDiff, Nat.reduceAdd, Nat.reduceSub, Nat.reduceMul, Nat.reduceDiv, Nat.lt_irrefl, Nat.not_lt_zero, Nat.zero_le, Nat.one_ne_zero, Nat.succ_ne_zero,  lt_def, i32_lit, reduceIte, P_isIn_eq, M_isIn_eq, M_goes_eq, or_false, false_or, or_true, true_or, and_true, true_and, and_false, false_and, not_true, not_false_eq_true, eq_self, if_true, if_false, not_or, not_and, Nat.not_lt, Nat.not_le, K4.1, io_le, hin, K3, io_eq, ix_io, e, hfig, b1, io_add, Nat.add_sub_cancel]
/-- the first digit of a term's number, at a place where state and below are told -/
theorem dig1_C {lv f sg b j m st : Nat} {a : List PR} {u : List Nat} {s : St} (hF : 5000 ≤ F) (T : TXT t n) (hj : j ≤ n) (hm : n + 2 ≤ m + j) (ha : a.length + u.length ≤ 62) (hsg : cmc sg = true) (hb : b ≤ 1) (K : CQ t n p w c cm cl lv st a u s) (hst : (st = 8 ∧ b = 0 ∧ t j ≠ 45) ∨ (st = 9 ∧ gI s 2508 = io b)) (e12 : gI s 2512 = io (fxM f)) (e13 : gI s 2513 = io sg) :
    RC F t n p w c cm cl lv (DN5 a u) (TL2 F n t m s j) s (m + j) (cmpE sg f b (pNum t j)) := by
  have hn := T.1
  have g := num_gd T hj
  have K3 := K.2.2.1
  have K4 := K.2.2.2.1
  have ht := tlt (i := j) T
  have key : ∃ s1, f_M_reads_b31 F s (io (t j)) = some (if dgt (t j) = true then io 1 else io 0, s1) ∧ FM EC p s s1 ∧ (48 ≤ t j → CQ t n p w c cm cl lv 10 a u s1 ∧ gI s1 2506 = io 1 ∧ gI s1 2507 = io (t j - 48) ∧ gI s1 2512 = io (fxM f) ∧ gI s1 2513 = io sg ∧ gI s1 2508 = io b) := by
    obtain ⟨K1, K2, -, -, K5⟩ := K
    refine ⟨sI (sI (sI (sI s 2508 (io b)) 2507 (io (t j) - io 48)) 2506 (io 1)) 2505 (io 10), ?_, (((FM.rf.I (by decide)).I (by decide)).I (by decide)).I (by decide), fun h48 => ⟨⟨(((K1.I).I).I).I, (((K2.I).I).I).I, rfl, K4, K5⟩, rfl, ?_, e12, e13, rfl⟩⟩
    · have hfig := isFigure_eq (F := F) (s := sI (sI (sI (sI s 2508 (io b)) 2507 (io (t j) - io 48)) 2506 (io 1)) 2505 (io 10)) ht
      rcases hst with ⟨rfl, rfl, h45⟩ | ⟨rfl, e8⟩
      · by_cases hd : dgt (t j) = true
        · rw [if_pos hd] at hfig ⊢
          simp (disch := omega) only [f_M_reads_b31, f_M_reads_b227, f_M_goesDigit, Option.bind_some, Nat.reduceEqDiff, Nat.add_zero, Nat.zero_add, Nat.reduceLT, Nat.reduceLeDiff, Nat.reduceAdd, Nat.reduceSub, Nat.reduceMul, Nat.reduceDiv, Nat.lt_irrefl, Nat.not_lt_zero, Nat.zero_le, Nat.one_ne_zero, Nat.succ_ne_zero,  lt_def, i32_lit, reduceIte, P_isIn_eq, M_isIn_eq, M_goes_eq, or_false, false_or, or_true, true_or, and_true, true_and, and_false, false_and, not_true, not_false_eq_true, eq_self, if_true, if_false, not_or, not_and, Nat.not_lt, Nat.not_le, K3, io_eq, h45, hfig]
        · rw [if_neg hd] at hfig ⊢
          simp (disch := omega) only [f_M_reads_b31, f_M_reads_b227, f_M_goesDigit, Option.bind_some, Nat.reduceEqDiff, Nat.add_zero, Nat.zero_add, Nat.reduceLT, Nat.reduceLeDiff, Nat.reduceAdd, Nat.reduceSub, Nat.reduceMul, Nat.reduceDiv, Nat.lt_irrefl, Nat.not_lt_zero, Nat.zero_le, Nat.one_ne_zero, Nat.succ_ne_zero,  lt_def, i32_lit, reduceIte, P_isIn_eq, M_isIn_eq, M_goes_eq, or_false, false_or, or_true, true_or, and_true, true_and, and_false, false_and, not_true, not_false_eq_true, eq_self, if_true, if_false, not_or, not_and, Nat.not_lt, Nat.not_le, K3, io_eq, h45, hfig]
      · have hb2 : b = 0 ∨ b = 1 := by omega
        by_cases hd : dgt (t j) = true
        · rw [if_pos hd] at hfig ⊢
          simp (disch := omega) only [f_M_reads_b31, f_M_reads_b227, f_M_goesDigit, Option.bind_some, Nat.reduceEqDiff, Nat.add_zero, Nat.zero_add, Nat.reduceLT, Nat.reduceLeDiff, Nat.reduceAdd, Nat.reduceSub, Nat.reduceMul, Nat.reduceDiv, Nat.lt_irrefl, Nat.not_lt_zero, Nat.zero_le, Nat.one_ne_zero, Nat.succ_ne_zero,  lt_def, i32_lit, reduceIte, P_isIn_eq, M_isIn_eq, M_goes_eq, or_false, false_or, or_true, true_or, and_true, true_and, and_false, false_and, not_true, not_false_eq_true, eq_self, if_true, if_false, not_or, not_and, Nat.not_lt, Nat.not_le, K3, io_eq, e8, hb2, hfig]
        · rw [if_neg hd] at hfig ⊢
          simp (disch := omega) only [f_M_reads_b31, f_M_reads_b227, f_M_goesDigit, Option.bind_some, Nat.reduceEqDiff, Nat.add_zero, Nat.zero_add, Nat.reduceLT, Nat.reduceLeDiff, Nat.reduceAdd, Nat.reduceSub, Nat.reduceMul, Nat.reduceDiv, Nat.lt_irrefl, Nat.not_lt_zero, Nat.zero_le, Nat.one_ne_zero, Nat.succ_ne_zero,  lt_def, i32_lit, reduceIte, P_isIn_eq, M_isIn_eq, M_goes_eq, or_false, false_or, or_true, true_or, and_true, true_and, and_false, false_and, not_true, not_false_eq_true, eq_self, if_true, if_false, not_or, not_and, Nat.not_lt, Nat.not_le, K3, io_eq, e8, hb2, hfig]
    · show io (t j) - io 48 = _
      rw [io_sub h48]
  obtain ⟨s1, k1, k2, k3⟩ := key
  unfold pNum at g ⊢
  by_cases hd : dgt (t j) = true
  · rw [if_pos hd] at k1 g ⊢
    have hjn := T.bin hd
    have h48 : 48 ≤ t j := by unfold dgt at hd; exact (of_decide_eq_true hd).1
    obtain ⟨q1, q2, q3, q4, q5, q6⟩ := k3 h48
    have en : nb t 4 0 j = nb t 3 (t j - 48) (j + 1) := by
      show (if dgt (t j) = true then nb t 3 (10 * 0 + (t j - 48)) (j + 1) else (0, j)) = _
      rw [if_pos hd]; congr 1; omega
    have g2 := (g.2.2 _ rfl).2
    rw [en] at g2 ⊢
    have h := (digs_C (F := F) hF T ha hsg hb 3 1 (t j - 48) (j + 1) (m - 1) s1 (by omega) (by omega) hjn (by omega) g2 q1 q2 q3 q4 q5 q6).pre k2
    rw [show m - 1 + (j + 1) = m + j by omega] at h
    rw [TL_stepN hjn k1]
    exact h
  · rw [if_neg hd] at k1 ⊢
    exact RC.fail (TL_fail (st := st) K4 hj K3 (by omega) (by omega) (fun _ => ⟨s1, k1, k2⟩))
theorem cmp_C {lv i m : Nat} {a : List PR} {u : List Nat} {s : St} (hF : 5000 ≤ F) (T : TXT t n) (hi : i ≤ n) (hm : n + 2 ≤ m + i) (ha : a.length + u.length ≤ 62) (K : CQ t n p w c cm cl lv 6 a u s) (h33 : t i ≠ 33) (h40 : t i ≠ 40) : RC F t n p w c cm cl lv (DN5 a u) (TL2 F n t m s i) s (m + i) (pCmp t i) := by
  have hn := T.1
  obtain ⟨K1, K2, K3, K4, K5⟩ := K
  have ht := tlt (i := i) T
  have hfo := fieldM_eq (F := F) (s := s) ht
  have hfx := fxM_le (t i)
  unfold pCmp
  by_cases hf : fdc (t i) = true
  · rw [if_pos hf] at hfo ⊢
    have i1 := T.bin hf
    have e1 : f_M_reads_b31 F s (io (t i)) = some (io 1, sI (sI s 2512 (io (fxM (t i)))) 2505 (io 7)) := by
      simp (disch := omega) only [f_M_reads_b31, f_M_goesToTerm, Option.bind_some, Nat.reduceEqDiff, Nat.add_zero, Nat.zero_add, Nat.reduceLT, Nat.reduceLeDiff, Nat.reduceAdd, Nat.reduceSub, Nat.reduceMul, Nat.reduceDiv, Nat.lt_irrefl, Nat.not_lt_zero, Nat.zero_le, Nat.one_ne_zero, Nat.succ_ne_zero,  lt_def, i32_lit, reduceIte, P_isIn_eq, M_isIn_eq, M_goes_eq, or_false, false_or, or_true, true_or, and_true, true_and, and_false, false_and, not_true, not_false_eq_true, eq_self, if_true, if_false, not_or, not_and, Nat.not_lt, Nat.not_le, K3, io_eq, h33, h40, hfo, gI_sI, io_neg1]
    have f1 : FM EC p s (sI (sI s 2512 (io (fxM (t i)))) 2505 (io 7)) := (FM.rf.I (by decide)).I (by decide)
    rw [TL_step (st := 7) T (f1.mt K4 (by decide)) i1 hm e1 rfl (by omega) (by omega) (by omega)]
    have ht1 := tlt (i := i + 1) T
    have hrk := rank_eq (F := F) (s := sI (sI (sI (sI s 2512 (io (fxM (t i)))) 2505 (io 7)) 2513 (io (t (i + 1)))) 2505 (io 8)) ht1
    have hrl := rkM_le (t (i + 1))
    have f2 : FM EC p s (sI (sI (sI (sI s 2512 (io (fxM (t i)))) 2505 (io 7)) 2513 (io (t (i + 1)))) 2505 (io 8)) := (f1.I (by decide)).I (by decide)
    have e2 : f_M_reads_b31 F (sI (sI s 2512 (io (fxM (t i)))) 2505 (io 7)) (io (t (i + 1))) = some (if cmc (t (i + 1)) = true then io 1 else io 0, sI (sI (sI (sI s 2512 (io (fxM (t i)))) 2505 (io 7)) 2513 (io (t (i + 1)))) 2505 (io 8)) := by
      by_cases hc : cmc (t (i + 1)) = true
      · have : rkM (t (i + 1)) = 1 := by rw [rkM_cmc]; exact hc
        rw [this] at hrk
        simp (disch := omega) only [f_M_reads_b31, Option.bind_some, Nat.reduceEqDiff, Nat.add_zero, Nat.zero_add, Nat.reduceLT, Nat.reduceLeDiff, Nat.reduceAdd, Nat.reduceSub, Nat.reduceMul, Nat.reduceDiv, Nat.lt_irrefl, Nat.not_lt_zero, Nat.zero_le, Nat.one_ne_zero, Nat.succ_ne_zero,  lt_def, i32_lit, reduceIte, P_isIn_eq, M_isIn_eq, M_goes_eq, or_false, false_or, or_true, true_or, and_true, true_and, and_false, false_and, not_true, not_false_eq_true, eq_self, if_true, if_false, not_or, not_and, Nat.not_lt, Nat.not_le, gI_sI, io_eq, hrk, hc]
      · have : ¬ rkM (t (i + 1)) = 1 := by rw [rkM_cmc]; exact hc
        simp (disch := omega) only [f_M_reads_b31, Option.bind_some, Nat.reduceEqDiff, Nat.add_zero, Nat.zero_add, Nat.reduceLT, Nat.reduceLeDiff, Nat.reduceAdd, Nat.reduceSub, Nat.reduceMul, Nat.reduceDiv, Nat.lt_irrefl, Nat.not_lt_zero, Nat.zero_le, Nat.one_ne_zero, Nat.succ_ne_zero,  lt_def, i32_lit, reduceIte, P_isIn_eq, M_isIn_eq, M_goes_eq, or_false, false_or, or_true, true_or, and_true, true_and, and_false, false_and, not_true, not_false_eq_true, eq_self, if_true, if_false, not_or, not_and, Nat.not_lt, Nat.not_le, gI_sI, io_eq, hrk, this, hc, Bool.false_eq_true]
    by_cases hc : cmc (t (i + 1)) = true
    · rw [if_pos hc] at e2 ⊢
      have i2 := T.bin hc
      rw [TL_step (st := 8) T (f2.mt K4 (by decide)) i2 (by omega) e2 rfl (by omega) (by omega) (by omega)]
      have KK : CQ t n p w c cm cl lv 8 a u (sI (sI (sI (sI s 2512 (io (fxM (t i)))) 2505 (io 7)) 2513 (io (t (i + 1)))) 2505 (io 8)) := ⟨(((K1.I).I).I).I, (((K2.I).I).I).I, rfl, K4, K5⟩
      by_cases h45 : t (i + 2) = 45
      · rw [if_pos h45]
        have i3 := T.in' h45
        have f3 : FM EC p s (sI (sI (sI (sI (sI (sI s 2512 (io (fxM (t i)))) 2505 (io 7)) 2513 (io (t (i + 1)))) 2505 (io 8)) 2508 (io 1)) 2505 (io 9)) := (f2.I (by decide)).I (by decide)
        have e3 : f_M_reads_b31 F (sI (sI (sI (sI s 2512 (io (fxM (t i)))) 2505 (io 7)) 2513 (io (t (i + 1)))) 2505 (io 8)) (io (t (i + 2))) = some (io 1, sI (sI (sI (sI (sI (sI s 2512 (io (fxM (t i)))) 2505 (io 7)) 2513 (io (t (i + 1)))) 2505 (io 8)) 2508 (io 1)) 2505 (io 9)) := by
          simp (disch := omega) only [f_M_reads_b31, f_M_reads_b227, Option.bind_some, Nat.reduceEqDiff, Nat.add_zero, Nat.zero_add, Nat.reduceLT, Nat.reduceLeDiff, Nat.reduceAdd, Nat.reduceSub, Nat.reduceMul, Nat.reduceDiv, Nat.lt_irrefl, Nat.not_lt_zero, Nat.zero_le, Nat.one_ne_zero, Nat.succ_ne_zero,  lt_def, i32_lit, reduceIte, P_isIn_eq, M_isIn_eq, M_goes_eq, or_false, false_or, or_true, true_or, and_true, true_and, and_false, false_and, not_true, not_false_eq_true, eq_self, if_true, if_false, not_or, not_and, Nat.not_lt, Nat.not_le, gI_sI, io_eq, h45]
        rw [TL_step (st := 9) T (f3.mt K4 (by decide)) i3 (by omega) e3 rfl (by omega) (by omega) (by omega)]
        have h := (dig1_C (F := F) (f := t i) (sg := t (i + 1)) (b := 1) (j := i + 3) (m := m - 1 - 1 - 1) (st := 9) hF T i3 (by omega) ha hc (by omega) (⟨(((((K1.I).I).I).I).I).I, (((((K2.I).I).I).I).I).I, rfl, K4, K5⟩ : CQ t n p w c cm cl lv 9 a u (sI (sI (sI (sI (sI (sI s 2512 (io (fxM (t i)))) 2505 (io 7)) 2513 (io (t (i + 1)))) 2505 (io 8)) 2508 (io 1)) 2505 (io 9))) (Or.inr ⟨rfl, rfl⟩) rfl rfl).pre f3
        rw [show m - 1 - 1 - 1 + (i + 3) = m + i by omega] at h
        exact h
      · rw [if_neg h45]
        have h := (dig1_C (F := F) (f := t i) (sg := t (i + 1)) (b := 0) (j := i + 2) (m := m - 1 - 1) (st := 8) hF T i2 (by omega) ha hc (by omega) KK (Or.inl ⟨rfl, rfl, h45⟩) rfl rfl).pre f2
        rw [show m - 1 - 1 + (i + 2) = m + i by omega] at h
        exact h
    · rw [if_neg hc] at e2 ⊢
      obtain ⟨s', x1, x2⟩ := TL_fail (E := EC) (p := p) (F := F) (m := m - 1) (j := i + 1) (st := 7) (f1.mt K4 (by decide)) i1 rfl (by omega) (by omega) (fun _ => ⟨_, e2, (FM.rf.I (by decide)).I (by decide)⟩)
      exact RC.fail ⟨s', x1, f1.trans x2⟩
  · rw [if_neg hf] at hfo ⊢
    refine RC.fail (TL_fail (st := 6) K4 hi K3 (by omega) (by omega) (fun _ => ⟨sI (sI s 2512 (-io 1)) 2505 (io 7), ?_, (FM.rf.I (by decide)).I (by decide)⟩))
    simp (disch := omega) only [f_M_reads_b31, f_M_goesToTerm, Option.bind_some, Nat.reduceEqDiff, Nat.add_zero, Nat.zero_add, Nat.reduceLT, Nat.reduceLeDiff, Nat.reduceAdd, Nat.reduceSub, Nat.reduceMul, Nat.reduceDiv, Nat.lt_irrefl, Nat.not_lt_zero, Nat.zero_le, Nat.one_ne_zero, Nat.succ_ne_zero,  lt_def, i32_lit, reduceIte, P_isIn_eq, M_isIn_eq, M_goes_eq, or_false, false_or, or_true, true_or, and_true, true_and, and_false, false_and, not_true, not_false_eq_true, eq_self, if_true, if_false, not_or, not_and, Nat.not_lt, Nat.not_le, K3, io_eq, h33, h40, hfo, gI_sI]
theorem arM_lt {x : Nat} (h : 1 ≤ arM x) : x < 1000 := by
  unfold arM at h
  by_cases h1 : x = 38
  · omega
  · by_cases h2 : x = 124
    · omega
    · rw [if_neg h1, if_neg h2] at h; omega
theorem DNr.len {r : Nat} {a a' : List PR} {v v' : List Nat} {cc : List CT} (h : DNr r a v cc a' v') : a'.length + v'.length = a.length + v.length + cc.length := by
  obtain ⟨pd, h1, h2, h3⟩ := h
  have := congrArg List.length h2
  rw [List.length_append, List.length_append, List.length_map, List.length_map] at this
  rw [h1, List.length_append]
  omega
/-- a sign behind a term -/
theorem sign_C {lv i m g r : Nat} {a a' : List PR} {v v' : List Nat} {acc : List CT} {s : St} (hF : 5000 ≤ F) (T : TXT t n) (hg : (g = 3 ∧ r = 1) ∨ (g = 4 ∧ r = 2)) (hm : n + 2 ≤ m + i) (K : CQ t n p w c cm cl lv 11 a' v' s) (hl : ltq v) (D : DNr r a v acc a' v') (hz : a.length + v.length + acc.length ≤ i) (tp : tpA r v) (h : sgc g (t i) = true) :
    ∃ s', TL2 F n t m s i = TL2 F n t (m - 1) s' (i + 1) ∧ FM EC p s s' ∧ CQ t n p w c cm cl lv 6 (a ++ acc.map askE) (t i :: v) s' := by
  have hn := T.1
  have hlen := D.len
  obtain ⟨pd, rfl, d2, d3⟩ := D
  obtain ⟨K1, K2, K3, K4, K5⟩ := K
  have hr : r < 10 := by omega
  have i1 : i < n := by rcases hg with ⟨rfl, -⟩ | ⟨rfl, -⟩ <;> exact T.bin h
  have hti : (t i = 124 ∧ r = 1) ∨ (t i = 38 ∧ r = 2) := by
    rcases hg with ⟨rfl, h2⟩ | ⟨rfl, h2⟩
    · exact Or.inl ⟨of_decide_eq_true h, h2⟩
    · exact Or.inr ⟨of_decide_eq_true h, h2⟩
  have hrk : arM (t i) = r := by rcases hti with ⟨e, e2⟩ | ⟨e, e2⟩ <;> rw [e, e2] <;> rfl
  obtain ⟨s1, b1, b2, b3, b4⟩ := putsA_eq (F := F) (lv := lv) hr (pd ++ v) F s a' K1 K2 K5 (by omega) (by omega)
  rw [flA_all pd v a' d3 (fun x w' e => (tp x w' e).1), d2] at b2 b3
  have b1' : f_M_putsAsked F s (io r) = some s1 := b1
  have hvl : v.length < 64 := by omega
  have K2' := b3.push (x := t i)
  have har := askRank_eq (F := F) (s := s) (tlt (i := i) T)
  rw [hrk] at har
  have fm : FM EC p s (sI (sI (sA s1 48 v.length (io (t i))) 2517 (io (v.length + 1))) 2505 (io 6)) := (((b4.wide (by decide)).A (by omega)).I (by decide)).I (by decide)
  refine ⟨sI (sI (sA s1 48 v.length (io (t i))) 2517 (io (v.length + 1))) 2505 (io 6), ?_, fm, ⟨(MB.I (MB.I (b2.sk))), K2'.I, rfl, fm.mt K4 (by decide), fun x hx => ?_⟩⟩
  · refine TL_step (st := 6) T (fm.mt K4 (by decide)) i1 hm ?_ rfl (by omega) (by omega) (by omega)
    have e17 := b3.1
    rcases hti with ⟨e, -⟩ | ⟨e, -⟩
    · rw [e] at har ⊢
      simp (disch := omega) only [f_M_reads_b31, f_M_goesAfter, f_M_goesAfter_b12, Option.bind_some, Nat.reduceEqDiff, Nat.add_zero, Nat.zero_add, Nat.reduceLT, Nat.reduceLeDiff, Nat.reduceAdd, Nat.reduceSub, Nat.reduceMul, Nat.reduceDiv, Nat.lt_irrefl, Nat.not_lt_zero, Nat.zero_le, Nat.one_ne_zero, Nat.succ_ne_zero,  lt_def, i32_lit, reduceIte, P_isIn_eq, M_isIn_eq, M_goes_eq, or_false, false_or, or_true, true_or, and_true, true_and, and_false, false_and, not_true, not_false_eq_true, eq_self, if_true, if_false, not_or, not_and, Nat.not_lt, Nat.not_le, K3, io_eq, har, b1', e17, ix_io, gI_sA, io_add]
    · rw [e] at har ⊢
      simp (disch := omega) only [f_M_reads_b31, f_M_goesAfter, f_M_goesAfter_b12, Option.bind_some, Nat.reduceEqDiff, Nat.add_zero, Nat.zero_add, Nat.reduceLT, Nat.reduceLeDiff, Nat.reduceAdd, Nat.reduceSub, Nat.reduceMul, Nat.reduceDiv, Nat.lt_irrefl, Nat.not_lt_zero, Nat.zero_le, Nat.one_ne_zero, Nat.succ_ne_zero,  lt_def, i32_lit, reduceIte, P_isIn_eq, M_isIn_eq, M_goes_eq, or_false, false_or, or_true, true_or, and_true, true_and, and_false, false_and, not_true, not_false_eq_true, eq_self, if_true, if_false, not_or, not_and, Nat.not_lt, Nat.not_le, K3, io_eq, har, b1', e17, ix_io, gI_sA, io_add]
  · rcases List.mem_cons.mp hx with h | h
    · rw [h]; exact tlt T
    · exact hl x h
theorem chn_C {g r i0 lv : Nat} {a : List PR} {v : List Nat} {part : Nat → Option (List CT) × Nat} (hF : 5000 ≤ F) (T : TXT t n) (hg : (g = 3 ∧ r = 1) ∨ (g = 4 ∧ r = 2)) (hl : ltq v) (tp : tpA r v) (hgd : ∀ i, i ≤ n → GD n i (part i) (fun _ _ => True))
    (hpart : ∀ i m s a2 v2, i0 ≤ i → i ≤ n → n + 2 ≤ m + i → CQ t n p w c cm cl lv 6 a2 v2 s → a2.length + v2.length ≤ i → tpA (r + 1) v2 → RC F t n p w c cm cl lv (DNr (r + 1) a2 v2) (TL2 F n t m s i) s (m + i) (part i)) :
    ∀ k acc i m s a' v', i0 < i → i ≤ n → n + 2 ≤ m + i → CQ t n p w c cm cl lv 11 a' v' s → DNr r a v acc a' v' → a.length + v.length + acc.length ≤ i → RC F t n p w c cm cl lv (DNr r a v) (TL2 F n t m s i) s (m + i) (chn t part (sgc g) tkC k acc i) := by
  have hn := T.1
  have h00 : sgc g 0 = false := by rcases hg with ⟨rfl, -⟩ | ⟨rfl, -⟩ <;> rfl
  intro k
  induction k with
  | zero =>
    intro acc i m s a' v' h0 hi hm K D hz
    exact ⟨fun h => (by cases h), fun cc hc => by cases hc; exact Or.inl ⟨s, m, a', v', rfl, rfl, FM.rf, K, D⟩⟩
  | succ k ih =>
    intro acc i m s a' v' h0 hi hm K D hz
    unfold chn
    by_cases h : sgc g (t i) = true
    · rw [if_pos h]
      obtain ⟨s1, e1, e2, e3⟩ := sign_C hF T hg hm K hl D hz tp h
      have i1 : i < n := by rcases hg with ⟨rfl, -⟩ | ⟨rfl, -⟩ <;> exact T.bin h
      have hti : (t i = 124 ∧ r = 1) ∨ (t i = 38 ∧ r = 2) := by
        rcases hg with ⟨rfl, h2⟩ | ⟨rfl, h2⟩
        · exact Or.inl ⟨of_decide_eq_true h, h2⟩
        · exact Or.inr ⟨of_decide_eq_true h, h2⟩
      have htp : tpA (r + 1) (t i :: v) := fun x w' e => by
        cases e
        rcases hti with ⟨e, e2⟩ | ⟨e, e2⟩ <;> rw [e, e2] <;> exact ⟨by decide, by decide⟩
      have hp := hpart (i + 1) (m - 1) s1 _ _ (by omega) i1 (by omega) e3 (by rw [List.length_append, List.length_map]; show a.length + acc.length + (v.length + 1) ≤ i + 1; omega) htp
      rw [show m - 1 + (i + 1) = m + i by omega] at hp
      obtain ⟨g1, g2, g3⟩ := hgd (i + 1) i1
      rw [e1]
      cases hr : (part (i + 1)).1 with
      | none =>
        obtain ⟨s', x1, x2⟩ := hp.1 hr
        exact RC.fail ⟨s', x1, e2.trans x2⟩
      | some cc =>
        obtain ⟨y1, y2, -⟩ := g3 cc hr
        rcases hp.2 cc hr with ⟨s2, m2, a3, v3, x1, x2, x3, x4, x5⟩ | ⟨x0, s2, x1, x2⟩
        · have D2 : DNr r a v (acc ++ cc ++ [tkC (t i)]) a3 v3 := by
            obtain ⟨pd, z1, z2, z3⟩ := x5
            refine ⟨pd ++ [t i], by rw [z1, List.append_assoc]; rfl, ?_, fun x hx => ?_⟩
            · rw [List.map_append, ← List.append_assoc, z2, List.map_append, List.map_append]
              have : [askE (tkC (t i))] = [t i].map (fun x => (x, 0)) := by
                unfold askE tkC
                rcases hti with ⟨e, -⟩ | ⟨e, -⟩ <;> rw [e] <;> rfl
              show a ++ acc.map askE ++ cc.map askE ++ _ = a ++ (acc.map askE ++ cc.map askE ++ [askE (tkC (t i))])
              rw [this]
              simp only [List.append_assoc]
            · rcases List.mem_append.mp hx with hx | hx
              · have := z3 x hx; omega
              · rw [List.mem_singleton.mp hx]
                rcases hti with ⟨e, e2⟩ | ⟨e, e2⟩ <;> rw [e, e2] <;> decide
          have hh := (ih (acc ++ cc ++ [tkC (t i)]) (part (i + 1)).2 m2 s2 a3 v3 (by omega) g2 (by omega) x4 D2 (by rw [List.length_append, List.length_append]; show a.length + v.length + (acc.length + cc.length + 1) ≤ _; omega)).pre (e2.trans x3)
          rw [x2] at hh
          rw [x1]
          exact hh
        · have e9 : chn t part (sgc g) tkC k (acc ++ cc ++ [tkC (t i)]) (part (i + 1)).2 = (some (acc ++ cc ++ [tkC (t i)]), n) := by
            rw [x0]
            cases k with
            | zero => rfl
            | succ k => unfold chn; rw [T.2.2 n (Nat.le_refl _), if_neg (by rw [h00]; decide)]
          show RC F t n p w c cm cl lv (DNr r a v) _ s (m + i) (chn t part (sgc g) tkC k (acc ++ cc ++ [tkC (t i)]) (part (i + 1)).2)
          rw [e9]
          exact ⟨fun h => (by cases h), fun cc' hc => Or.inr ⟨rfl, s2, x1, e2.trans x2⟩⟩
    · rw [if_neg h]
      exact ⟨fun h => (by cases h), fun cc hc => by cases hc; exact Or.inl ⟨s, m, a', v', rfl, rfl, FM.rf, K, D⟩⟩
theorem DNr.ltq {r : Nat} {a a' : List PR} {v v' : List Nat} {cc : List CT} (h : DNr r a v cc a' v') (hr : 1 ≤ r) (hl : ltq v) : ltq v' := by
  obtain ⟨pd, rfl, -, h3⟩ := h
  intro x hx
  rcases List.mem_append.mp hx with h | h
  · exact arM_lt (Nat.le_trans hr (h3 x h))
  · exact hl x h
def DNg (g : Nat) (a : List PR) (v : List Nat) : List CT → List PR → List Nat → Prop := if g = 5 then DN5 a v else DNr (g - 2) a v
theorem MCC (hF : 5000 ≤ F) (T : TXT t n) : ∀ d g i m s a v lv, (g = 3 ∨ g = 4 ∨ g = 5) → i ≤ n → n + 2 ≤ m + i → 4 * (n - i) + (6 - g) ≤ d → CQ t n p w c cm cl lv 6 a v s → a.length + v.length ≤ i → lv ≤ i → (g = 5 ∨ tpA (g - 2) v) → RC F t n p w c cm cl lv (DNg g a v) (TL2 F n t m s i) s (m + i) (pC t d g i) := by
  have hn := T.1
  intro d
  induction d with
  | zero => intro g i m s a v lv hg hi hm hd; omega
  | succ d ih =>
    intro g i m s a v lv hg hi hm hd K hz hlv htp
    have hT : ∀ {g r part i0}, ((g = 3 ∧ r = 1) ∨ (g = 4 ∧ r = 2)) → (∀ i, i ≤ n → GD n i (part i) (fun _ _ => True)) → i0 = i → tpA r v →
        (∀ i m s a2 v2, i0 ≤ i → i ≤ n → n + 2 ≤ m + i → CQ t n p w c cm cl lv 6 a2 v2 s → a2.length + v2.length ≤ i → tpA (r + 1) v2 → RC F t n p w c cm cl lv (DNr (r + 1) a2 v2) (TL2 F n t m s i) s (m + i) (part i)) → RC F t n p w c cm cl lv (DNr r a v) (TL2 F n t m s i) s (m + i) (chain t part (sgc g) tkC 40 i) := by
      intro g r part i0 hgr hgd hi0 tp hpart
      subst hi0
      have hp := hpart i0 m s a v (Nat.le_refl _) hi hm K hz (fun x w' e => ⟨by have := (tp x w' e).1; omega, (tp x w' e).2⟩)
      obtain ⟨g1, g2, g3⟩ := hgd i0 hi
      unfold chain
      cases hr : (part i0).1 with
      | none =>
        obtain ⟨s', x1, x2⟩ := hp.1 hr
        exact RC.fail ⟨s', x1, x2⟩
      | some cc =>
        obtain ⟨y1, y2, -⟩ := g3 cc hr
        rcases hp.2 cc hr with ⟨s2, m2, a3, v3, x1, x2, x3, x4, x5⟩ | ⟨x0, s2, x1, x2⟩
        · have D : DNr r a v cc a3 v3 := by
            obtain ⟨pd, z1, z2, z3⟩ := x5
            exact ⟨pd, z1, z2, fun x hx => by have := z3 x hx; omega⟩
          have hh := (chn_C (F := F) hF T hgr K.2.2.2.2 tp hgd hpart 40 cc (part i0).2 m2 s2 a3 v3 y1 g2 (by omega) x4 D (by omega)).pre x3
          rw [x2] at hh
          rw [x1]
          exact hh
        · have h00 : sgc g 0 = false := by rcases hgr with ⟨rfl, -⟩ | ⟨rfl, -⟩ <;> rfl
          have e9 : chn t part (sgc g) tkC 40 cc (part i0).2 = (some cc, n) := by
            rw [x0]
            show chn t part (sgc g) tkC (39 + 1) cc n = _
            unfold chn
            rw [T.2.2 n (Nat.le_refl _), if_neg (by rw [h00]; decide)]
          show RC F t n p w c cm cl lv (DNr r a v) _ s (m + i0) (chn t part (sgc g) tkC 40 cc (part i0).2)
          rw [e9]
          exact ⟨fun h => (by cases h), fun cc' hc => Or.inr ⟨rfl, s2, x1, x2⟩⟩
    rcases hg with rfl | rfl | rfl
    · exact hT (Or.inl ⟨rfl, rfl⟩) (fun i hi => (pC_gd T d 4 i (by omega) hi).tt) rfl (htp.resolve_left (by omega)) (fun i' m' s' a2 v2 h1 h2 h3 h4 h5 h6 => ih 4 i' m' s' a2 v2 lv (by omega) h2 h3 (by omega) h4 h5 (by omega) (Or.inr h6))
    · refine hT (Or.inr ⟨rfl, rfl⟩) (fun i hi => (pC_gd T d 5 i (by omega) hi).tt) rfl (htp.resolve_left (by omega)) (fun i' m' s' a2 v2 h1 h2 h3 h4 h5 h6 => ?_)
      have h := ih 5 i' m' s' a2 v2 lv (by omega) h2 h3 (by omega) h4 h5 (by omega) (Or.inl rfl)
      refine ⟨h.1, fun cc hc => (h.2 cc hc).imp (fun ⟨s', m', a', v', e1, e2, e3, e4, e5⟩ => ⟨s', m', a', v', e1, e2, e3, e4, ?_⟩) id⟩
      have e6 : DN5 a2 v2 cc a' v' := e5
      obtain ⟨z1, z2⟩ := e6
      rw [flT_no (fun x w' e => (h6 x w' e).2)] at z1 z2
      exact ⟨[], z1, by rw [z2]; exact List.append_nil _, fun x hx => (List.not_mem_nil hx).elim⟩
    · obtain ⟨K1, K2, K3, K4, K5⟩ := id K
      show RC F t n p w c cm cl lv (DN5 a v) (TL2 F n t m s i) s (m + i) (if t i = 33 then post (tkC 33) (pC t d 5 (i + 1)) else if t i = 40 then clo t (pC t d 3 (i + 1)) else pCmp t i)
      have hvl : v.length < 64 := by omega
      by_cases h1 : t i = 33
      · rw [if_pos h1]
        have i1 := T.in' h1
        have fm : FM EC p s (sI (sI (sA s 48 v.length (io 33)) 2517 (io (v.length + 1))) 2519 (io lv)) := ((FM.rf.A (by omega)).I (by decide)).I (by decide)
        have K2' := K2.push (x := 33)
        have KK : CQ t n p w c cm cl lv 6 a (33 :: v) (sI (sI (sA s 48 v.length (io 33)) 2517 (io (v.length + 1))) 2519 (io lv)) := ⟨MB.I (MB.I K1.sk), ⟨K2'.1, K2'.2.1, rfl⟩, K3, fm.mt K4 (by decide), fun x hx => by
          rcases List.mem_cons.mp hx with h | h
          · rw [h]; omega
          · exact K5 x h⟩
        have e1 : f_M_reads_b31 F s (io (t i)) = some (io 1, sI (sI (sA s 48 v.length (io 33)) 2517 (io (v.length + 1))) 2519 (io lv)) := by
          rw [h1]
          simp (disch := omega) only [f_M_reads_b31, f_M_goesToTerm, f_M_goesToTerm_b12, Option.bind_some, Nat.reduceEqDiff, Nat.add_zero, Nat.zero_add, Nat.reduceLT, Nat.reduceLeDiff, Nat.reduceAdd, Nat.reduceSub, Nat.reduceMul, Nat.reduceDiv, Nat.lt_irrefl, Nat.not_lt_zero, Nat.zero_le, Nat.one_ne_zero, Nat.succ_ne_zero,  lt_def, i32_lit, reduceIte, P_isIn_eq, M_isIn_eq, M_goes_eq, or_false, false_or, or_true, true_or, and_true, true_and, and_false, false_and, not_true, not_false_eq_true, eq_self, if_true, if_false, not_or, not_and, Nat.not_lt, Nat.not_le, K3, io_eq, K2.1, ix_io, gI_sA, gI_sI, io_add, K2.2.2]
        have h := (ih 5 (i + 1) (m - 1) _ a (33 :: v) lv (by omega) i1 (by omega) (by omega) KK (by show a.length + (v.length + 1) ≤ i + 1; omega) (by omega) (Or.inl rfl)).pre fm
        rw [show m - 1 + (i + 1) = m + i by omega] at h
        rw [TL_step (st := 6) T (fm.mt K4 (by decide)) i1 hm e1 K3 (by omega) (by omega) (by omega)]
        unfold post
        cases hr : (pC t d 5 (i + 1)).1 with
        | none =>
          obtain ⟨s', x1, x2⟩ := h.1 hr
          exact RC.fail ⟨s', x1, x2⟩
        | some cc =>
          refine ⟨fun h => (by cases h), fun cc' hc => ?_⟩
          cases hc
          refine (h.2 cc hr).imp (fun ⟨s', m', a', v', e1, e2, e3, e4, e5⟩ => ⟨s', m', a', v', e1, e2, e3, e4, ?_⟩) id
          have e6 : DN5 a (33 :: v) cc a' v' := e5
          unfold DN5 flT at e6
          rw [if_pos rfl, List.append_assoc] at e6
          unfold DN5
          rw [List.map_append]
          exact e6
      · rw [if_neg h1]
        by_cases h2 : t i = 40
        · rw [if_pos h2]
          have i1 := T.in' h2
          have fm : FM EC p s (sI (sI (sA s 48 v.length (io 40)) 2517 (io (v.length + 1))) 2519 (io (lv + 1))) := ((FM.rf.A (by omega)).I (by decide)).I (by decide)
          have K2' := K2.push (x := 40)
          have KK : CQ t n p w c cm cl (lv + 1) 6 a (40 :: v) (sI (sI (sA s 48 v.length (io 40)) 2517 (io (v.length + 1))) 2519 (io (lv + 1))) := ⟨MB.I (MB.I K1.sk), ⟨K2'.1, K2'.2.1, rfl⟩, K3, fm.mt K4 (by decide), fun x hx => by
            rcases List.mem_cons.mp hx with h | h
            · rw [h]; omega
            · exact K5 x h⟩
          have e1 : f_M_reads_b31 F s (io (t i)) = some (io 1, sI (sI (sA s 48 v.length (io 40)) 2517 (io (v.length + 1))) 2519 (io (lv + 1))) := by
            rw [h2]
            simp (disch := omega) only [f_M_reads_b31, f_M_goesToTerm, f_M_goesToTerm_b12, Option.bind_some, Nat.reduceEqDiff, Nat.add_zero, Nat.zero_add, Nat.reduceLT, Nat.reduceLeDiff, Nat.reduceAdd, Nat.reduceSub, Nat.reduceMul, Nat.reduceDiv, Nat.lt_irrefl, Nat.not_lt_zero, Nat.zero_le, Nat.one_ne_zero, Nat.succ_ne_zero,  lt_def, i32_lit, reduceIte, P_isIn_eq, M_isIn_eq, M_goes_eq, or_false, false_or, or_true, true_or, and_true, true_and, and_false, false_and, not_true, not_false_eq_true, eq_self, if_true, if_false, not_or, not_and, Nat.not_lt, Nat.not_le, K3, io_eq, K2.1, ix_io, gI_sA, gI_sI, io_add, K2.2.2]
          have h := (ih 3 (i + 1) (m - 1) _ a (40 :: v) (lv + 1) (by omega) i1 (by omega) (by omega) KK (by show a.length + (v.length + 1) ≤ i + 1; omega) (by omega) (Or.inr (fun x w' e => by cases e; exact ⟨by decide, by decide⟩))).pre fm
          rw [show m - 1 + (i + 1) = m + i by omega] at h
          rw [TL_step (st := 6) T (fm.mt K4 (by decide)) i1 hm e1 K3 (by omega) (by omega) (by omega)]
          obtain ⟨g1, g2, g3⟩ := pC_gd T d 3 (i + 1) (by omega) i1
          unfold clo
          cases hr : (pC t d 3 (i + 1)).1 with
          | none =>
            obtain ⟨s', x1, x2⟩ := h.1 hr
            exact RC.fail ⟨s', x1, x2⟩
          | some cc =>
            obtain ⟨y1, y2, y3, y4⟩ := g3 cc hr
            dsimp only
            rcases h.2 cc hr with ⟨s2, m2, a3, v3, x1, x2, x3, x4, x5⟩ | ⟨x0, s2, x1, x2⟩
            · have D : DNr 1 a (40 :: v) cc a3 v3 := x5
              have hlen := D.len
              have hlen2 : a3.length + v3.length = a.length + (v.length + 1) + cc.length := hlen
              obtain ⟨pd, z1, z2, z3⟩ := D
              obtain ⟨Q1, Q2, Q3, Q4, Q5⟩ := x4
              by_cases h41 : t (pC t d 3 (i + 1)).2 = 41
              · rw [if_pos h41]
                have j1 := T.in' h41
                obtain ⟨s3, b1, b2, b3, b4⟩ := putsA_eq (F := F) (lv := lv + 1) (r := 1) (by omega) v3 F s2 a3 Q1 Q2 Q5 (by omega) (by omega)
                rw [z1, flA_all pd (40 :: v) a3 z3 (fun x w' e => by cases e; decide), z2] at b2 b3
                have b1' : f_M_putsAsked F s2 (io 1) = some s3 := b1
                have hac : (a ++ cc.map askE).length = a.length + cc.length := by rw [List.length_append, List.length_map]
                have P2 : MB (sI (sI s3 2517 (io v.length)) 2519 (io lv)) p w c (a ++ cc.map askE) cm cl := (b2.I).I
                have P3 : MA (sI (sI s3 2517 (io v.length)) 2519 (io lv)) v lv := ⟨rfl, b3.2.1.2, rfl⟩
                obtain ⟨s4, d1, d2, d3, d4, d5⟩ := endsTerm_eq (F := F) (lv := lv) v F _ _ P2 P3 K5 (by omega) (by rw [hac]; omega)
                have d1' : f_M_endsTerm F (sI (sI s3 2517 (io v.length)) 2519 (io lv)) = some s4 := d1
                have fm2 : FM EC p s2 s4 := (((b4.wide (by decide)).I (by decide)).I (by decide)).trans (d5.wide (by decide))
                refine ⟨fun h => (by cases h), fun cc' hc => ?_⟩
                cases hc
                refine Or.inl ⟨s4, m2 - 1, _, _, ?_, by show m2 - 1 + ((pC t d 3 (i + 1)).2 + 1) = m + i; omega, x3.trans fm2, ⟨d2, d3, d4, fm2.mt Q4 (by decide), (flT_len v _).2 K5⟩, rfl, rfl⟩
                rw [x1]
                refine TL_step (st := 11) T (fm2.mt Q4 (by decide)) j1 (by omega) ?_ d4 (by omega) (by omega) (by omega)
                have e17 : gI s3 2517 = io (v.length + 1) := b3.1
                have e19 : gI s3 2519 = io (lv + 1) := b3.2.2
                have nl : ¬ lv + 1 = 0 := by omega
                rw [h41]
                simp (disch := omega) only [f_M_reads_b31, f_M_goesAfter, Option.bind_some, Nat.reduceEqDiff, Nat.add_zero, Nat.zero_add, Nat.reduceLT, Nat.reduceLeDiff, Nat.reduceAdd, Nat.reduceSub, Nat.reduceMul, Nat.reduceDiv, Nat.lt_irrefl, Nat.not_lt_zero, Nat.zero_le, Nat.one_ne_zero, Nat.succ_ne_zero,  lt_def, i32_lit, reduceIte, P_isIn_eq, M_isIn_eq, M_goes_eq, or_false, false_or, or_true, true_or, and_true, true_and, and_false, false_and, not_true, not_false_eq_true, eq_self, if_true, if_false, not_or, not_and, Nat.not_lt, Nat.not_le, Q3, io_eq, b1', e19, nl, e17, gI_sI, io_sub, Nat.add_sub_cancel, d1']
              · rw [if_neg h41]
                have hs4 := y4.1 (by omega)
                have hs3 := y4.2 (by omega)
                have n1 : ¬ t (pC t d 3 (i + 1)).2 = 38 := fun e => by rw [e] at hs4; exact absurd hs4 (by decide)
                have n2 : ¬ t (pC t d 3 (i + 1)).2 = 124 := fun e => by rw [e] at hs3; exact absurd hs3 (by decide)
                have ht := tlt (i := (pC t d 3 (i + 1)).2) T
                obtain ⟨s', q1, q2⟩ := TL_fail (E := EC) (p := p) (F := F) (m := m2) (j := (pC t d 3 (i + 1)).2) (st := 11) Q4 g2 Q3 (by omega) (by omega) (fun _ => ⟨s2, by simp (disch := omega) only [f_M_reads_b31, f_M_goesAfter, Option.bind_some, Nat.reduceEqDiff, Nat.add_zero, Nat.zero_add, Nat.reduceLT, Nat.reduceLeDiff, Nat.reduceAdd, Nat.reduceSub, Nat.reduceMul, Nat.reduceDiv, Nat.lt_irrefl, Nat.not_lt_zero, Nat.zero_le, Nat.one_ne_zero, Nat.succ_ne_zero,  lt_def, i32_lit, reduceIte, P_isIn_eq, M_isIn_eq, M_goes_eq, or_false, false_or, or_true, true_or, and_true, true_and, and_false, false_and, not_true, not_false_eq_true, eq_self, if_true, if_false, not_or, not_and, Nat.not_lt, Nat.not_le, Q3, io_eq, n1, n2, h41], FM.rf⟩)
                exact RC.fail ⟨s', by rw [x1, q1], x3.trans q2⟩
            · rw [if_neg (by rw [x0, T.2.2 n (Nat.le_refl _)]; decide)]
              exact RC.fail ⟨s2, by rw [x1, x0], x2⟩
        · rw [if_neg h2]
          exact cmp_C hF T hi hm (by omega) K h1 h2
end MCH
