/-! the model reads a question -/
def kxM (k : Nat) : Nat := if k = 110 then 0 else if k = 115 then 1 else if k = 109 then 2 else if k = 120 then 3 else if k = 100 then 4 else 5
theorem kxM_le (k : Nat) : kxM k ≤ 5 := by unfold kxM; repeat (first | omega | split)
theorem kindM_eq {F c : Nat} {s : St} (hc : c < 1000) : f_M_kindOf F s (io c) = some (if agc c = true then io (kxM c) else -io 1, s) := by
  unfold agc kxM
  by_cases h1 : c = 110
  · subst h1; simp (disch := omega) only [f_M_kindOf, Option.bind_some, Nat.reduceEqDiff, Nat.add_zero, Nat.zero_add, Nat.reduceLT, Nat.reduceLeDiff, Nat.reduceAdd, Nat.reduceSub, Nat.reduceMul, Nat.reduceDiv, Nat.lt_irrefl, Nat.not_lt_zero, Nat.zero_le, Nat.one_ne_zero, Nat.succ_ne_zero,  lt_def, i32_lit, reduceIte, P_isIn_eq, M_isIn_eq, M_goes_eq, or_false, false_or, or_true, true_or, and_true, true_and, and_false, false_and, not_true, not_false_eq_true, eq_self, if_true, if_false, not_or, not_and, Nat.not_lt, Nat.not_le, io_eq, decide_true]
  · by_cases h2 : c = 115
    · subst h2; simp (disch := omega) only [f_M_kindOf, Option.bind_some, Nat.reduceEqDiff, Nat.add_zero, Nat.zero_add, Nat.reduceLT, Nat.reduceLeDiff, Nat.reduceAdd, Nat.reduceSub, Nat.reduceMul, Nat.reduceDiv, Nat.lt_irrefl, Nat.not_lt_zero, Nat.zero_le, Nat.one_ne_zero, Nat.succ_ne_zero,  lt_def, i32_lit, reduceIte, P_isIn_eq, M_isIn_eq, M_goes_eq, or_false, false_or, or_true, true_or, and_true, true_and, and_false, false_and, not_true, not_false_eq_true, eq_self, if_true, if_false, not_or, not_and, Nat.not_lt, Nat.not_le, io_eq, decide_true]
    · by_cases h3 : c = 109
      · subst h3; simp (disch := omega) only [f_M_kindOf, Option.bind_some, Nat.reduceEqDiff, Nat.add_zero, Nat.zero_add, Nat.reduceLT, Nat.reduceLeDiff, Nat.reduceAdd, Nat.reduceSub, Nat.reduceMul, Nat.reduceDiv, Nat.lt_irrefl, Nat.not_lt_zero, Nat.zero_le, Nat.one_ne_zero, Nat.succ_ne_zero,  lt_def, i32_lit, reduceIte, P_isIn_eq, M_isIn_eq, M_goes_eq, or_false, false_or, or_true, true_or, and_true, true_and, and_false, false_and, not_true, not_false_eq_true, eq_self, if_true, if_false, not_or, not_and, Nat.not_lt, Nat.not_le, io_eq, decide_true]
      · by_cases h4 : c = 120
        · subst h4; simp (disch := omega) only [f_M_kindOf, Option.bind_some, Nat.reduceEqDiff, Nat.add_zero, Nat.zero_add, Nat.reduceLT, Nat.reduceLeDiff, Nat.reduceAdd, Nat.reduceSub, Nat.reduceMul, Nat.reduceDiv, Nat.lt_irrefl, Nat.not_lt_zero, Nat.zero_le, Nat.one_ne_zero, Nat.succ_ne_zero,  lt_def, i32_lit, reduceIte, P_isIn_eq, M_isIn_eq, M_goes_eq, or_false, false_or, or_true, true_or, and_true, true_and, and_false, false_and, not_true, not_false_eq_true, eq_self, if_true, if_false, not_or, not_and, Nat.not_lt, Nat.not_le, io_eq, decide_true]
        · by_cases h5 : c = 100
          · subst h5; simp (disch := omega) only [f_M_kindOf, Option.bind_some, Nat.reduceEqDiff, Nat.add_zero, Nat.zero_add, Nat.reduceLT, Nat.reduceLeDiff, Nat.reduceAdd, Nat.reduceSub, Nat.reduceMul, Nat.reduceDiv, Nat.lt_irrefl, Nat.not_lt_zero, Nat.zero_le, Nat.one_ne_zero, Nat.succ_ne_zero,  lt_def, i32_lit, reduceIte, P_isIn_eq, M_isIn_eq, M_goes_eq, or_false, false_or, or_true, true_or, and_true, true_and, and_false, false_and, not_true, not_false_eq_true, eq_self, if_true, if_false, not_or, not_and, Nat.not_lt, Nat.not_le, io_eq, decide_true]
          · by_cases h6 : c = 116
            · subst h6; simp (disch := omega) only [f_M_kindOf, Option.bind_some, Nat.reduceEqDiff, Nat.add_zero, Nat.zero_add, Nat.reduceLT, Nat.reduceLeDiff, Nat.reduceAdd, Nat.reduceSub, Nat.reduceMul, Nat.reduceDiv, Nat.lt_irrefl, Nat.not_lt_zero, Nat.zero_le, Nat.one_ne_zero, Nat.succ_ne_zero,  lt_def, i32_lit, reduceIte, P_isIn_eq, M_isIn_eq, M_goes_eq, or_false, false_or, or_true, true_or, and_true, true_and, and_false, false_and, not_true, not_false_eq_true, eq_self, if_true, if_false, not_or, not_and, Nat.not_lt, Nat.not_le, io_eq, decide_true]
            · simp (disch := omega) only [f_M_kindOf, Option.bind_some, Nat.reduceEqDiff, Nat.add_zero, Nat.zero_add, Nat.reduceLT, Nat.reduceLeDiff, Nat.reduceAdd, Nat.reduceSub, Nat.reduceMul, Nat.reduceDiv, Nat.lt_irrefl, Nat.not_lt_zero, Nat.zero_le, Nat.one_ne_zero, Nat.succ_ne_zero,  lt_def, i32_lit, reduceIte, P_isIn_eq, M_isIn_eq, M_goes_eq, or_false, false_or, or_true, true_or, and_true, true_and, and_false, false_and, not_true, not_false_eq_true, eq_self, if_true, if_false, not_or, not_and, Nat.not_lt, Nat.not_le, io_eq, h1, h2, h3, h4, h5, h6, decide_false, Bool.false_eq_true, or_self]
theorem kxM_0 {k : Nat} : (kxM k = 0) = (k = 110) := by
  unfold kxM
  apply propext
  by_cases h : k = 110
  · rw [if_pos h]; omega
  · rw [if_neg h]
    constructor
    · intro h2; repeat (first | omega | split at h2)
    · intro h2; exact absurd h2 h
def fkM (x : QT) : Nat := if x.1 = 110 then 0 else fxM x.2.1
def MCx (a : List PR) (x : QT) (y : PR) : Prop := (x.1 = 35 ∧ y = (1, x.2.1)) ∨ (x.1 = 126 ∧ y = (2, 0)) ∨ (qop x.1 ∧ y = (x.1, 0)) ∨
  (agc x.1 = true ∧ y.1 = 3 ∧ y.2 < 2147483648 ∧ y.2 % 8 = kxM x.1 ∧ y.2 / 8 % 8 = fkM x ∧ ((x.2.2 = none ∧ y.2 / 64 % 2 = 0) ∨ ∃ cc pre ps, x.2.2 = some cc ∧ y.2 / 64 % 2 = 1 ∧ y.2 / 128 % 128 = pre.length ∧ y.2 / 16384 = pre.length + cc.length ∧ a = pre ++ cc.map askE ++ ps))
def MCs (a : List PR) : List QT → List PR → Prop
  | [], [] => True
  | x :: q, y :: c => MCx a x y ∧ MCs a q c
  | _, _ => False
theorem MCx.ext {a z : List PR} {x : QT} {y : PR} (h : MCx a x y) : MCx (a ++ z) x y := by
  rcases h with h | h | h | ⟨h1, h2, h3, h4, h5, h6⟩
  · exact Or.inl h
  · exact Or.inr (Or.inl h)
  · exact Or.inr (Or.inr (Or.inl h))
  · refine Or.inr (Or.inr (Or.inr ⟨h1, h2, h3, h4, h5, h6.imp id (fun ⟨cc, pre, ps, e1, e2, e3, e4, e5⟩ => ⟨cc, pre, ps ++ z, e1, e2, e3, e4, ?_⟩)⟩))
    rw [e5]; simp only [List.append_assoc]
theorem MCs.ext {a z : List PR} : ∀ {q : List QT} {c : List PR}, MCs a q c → MCs (a ++ z) q c := by
  intro q
  induction q with
  | nil => intro c h; cases c with | nil => trivial | cons y c => exact h
  | cons x q ih => intro c h; cases c with | nil => exact h | cons y c => exact ⟨h.1.ext, ih h.2⟩
theorem MCs.app {a : List PR} : ∀ {q1 q2 : List QT} {c1 c2 : List PR}, MCs a q1 c1 → MCs a q2 c2 → MCs a (q1 ++ q2) (c1 ++ c2) := by
  intro q1
  induction q1 with
  | nil => intro q2 c1 c2 h h2; cases c1 with | nil => exact h2 | cons y c => exact h.elim
  | cons x q ih => intro q2 c1 c2 h h2; cases c1 with | nil => exact h.elim | cons y c => exact ⟨h.1, ih h.2 h2⟩
theorem MCs.len {a : List PR} : ∀ {q : List QT} {c : List PR}, MCs a q c → c.length = q.length := by
  intro q
  induction q with
  | nil => intro c h; cases c with | nil => rfl | cons y c => exact h.elim
  | cons x q ih => intro c h; cases c with | nil => exact h.elim | cons y c => exact congrArg (· + 1) (ih h.2)
theorem MCs.one {a : List PR} {x : QT} {y : PR} (h : MCx a x y) : MCs a [x] [y] := ⟨h, trivial⟩
def EQ : List Nat := [2505, 2506, 2507, 2508, 2509, 2510, 2511, 2512, 2513, 2515, 2517, 2518, 2519]
def QQ (t : Nat → Nat) (n p : Nat) (st : Nat) (w : List Nat) (c a : List PR) (cm : Nat) (cl : List Nat) (s : St) : Prop := MB s p w c a cm cl ∧ gI s 2505 = io st ∧ MT t n s ∧ ltq w ∧ ∃ f0, f0 < 128 ∧ gI s 2511 = io f0
abbrev DT : Type := List QT → Nat → List PR → List Nat → List PR → Nat → Prop
def RQ (F : Nat) (t : Nat → Nat) (n p : Nat) (cl : List Nat) (DN : DT) (x : Option (Int32 × St)) (s : St) (mi : Nat) (r : Option (List QT) × Nat) : Prop :=
  (r.1 = none → ∃ s', x = some (io r.2, s') ∧ FM EQ p s s') ∧ ∀ cc, r.1 = some cc →
    ∃ s' m' w' c' a' cm', x = TL2 F n t m' s' r.2 ∧ m' + r.2 = mi ∧ FM EQ p s s' ∧ QQ t n p 2 w' c' a' cm' cl s' ∧ a'.length ≤ r.2 ∧ DN cc r.2 a' w' c' cm'
def D6 (w : List Nat) (c a : List PR) (cm : Nat) : DT := fun cq _ a' w' c' cm' => cm' = cm ∧ (∃ z, a' = a ++ z) ∧ ∃ e, MCs a' cq e ∧ w' = (flN w (c ++ e)).1 ∧ c' = (flN w (c ++ e)).2
def Dr (r : Nat) (w : List Nat) (c a : List PR) (cm : Nat) : DT := fun cq _ a' w' c' cm' => cm' = cm ∧ (∃ z, a' = a ++ z) ∧ ∃ e pd, MCs a' cq e ∧ w' = pd ++ w ∧ c' ++ pd.map (fun x => (x, 0)) = c ++ e ∧ ∀ x ∈ pd, r ≤ rkM x
def D0 (t : Nat → Nat) (w : List Nat) (c a : List PR) : DT := fun cq j a' w' c' cm' => ((cm' = 0 ∧ sgc 0 (t j) = false) ∨ cm' = 1) ∧ (∃ z, a' = a ++ z) ∧ ∃ e pd, MCs a' cq e ∧ w' = pd ++ w ∧ c' ++ pd.map (fun x => (x, 0)) = c ++ e ∧ ∀ x ∈ pd, 1 ≤ rkM x
def tpQ (r : Nat) (w : List Nat) : Prop := ∀ x w', w = x :: w' → rkM x < r ∧ x ≠ 2
theorem rkM_lt {x : Nat} (h : 1 ≤ rkM x) : x < 1000 := by
  unfold rkM at h
  by_cases h1 : x = 42 ∨ x = 47
  · omega
  · by_cases h2 : x = 43 ∨ x = 45
    · omega
    · by_cases h3 : x = 60 ∨ x = 62 ∨ x = 61
      · omega
      · rw [if_neg h1, if_neg h2, if_neg h3] at h; omega
theorem dlen {w w' pd : List Nat} {c c' e : List PR} (h1 : w' = pd ++ w) (h2 : c' ++ pd.map (fun x => (x, 0)) = c ++ e) : c'.length + w'.length = c.length + w.length + e.length := by
  have := congrArg List.length h2
  rw [List.length_append, List.length_append, List.length_map] at this
  rw [h1, List.length_append]
  omega
theorem its_bits {k f h z y : Nat} (hk : k < 8) (hf : f < 8) (hh : h = 0 ∨ h = 64) (hz : z < 128) : (((k ||| f <<< 3) ||| h) ||| z <<< 7) ||| y <<< 14 = k + 8 * f + h + 128 * z + 16384 * y := by
  have s3 : f <<< 3 = 8 * f := by rw [Nat.shiftLeft_eq]; omega
  have s7 : z <<< 7 = 128 * z := by rw [Nat.shiftLeft_eq]; omega
  have s14 : y <<< 14 = 16384 * y := by rw [Nat.shiftLeft_eq]; omega
  have e1 : k ||| f <<< 3 = k + 8 * f := by rw [Nat.or_comm, ← Nat.shiftLeft_add_eq_or_of_lt (by omega), s3]; omega
  have e2 : (k + 8 * f) ||| h = k + 8 * f + h := by
    rcases hh with rfl | rfl
    · rw [Nat.or_zero]; omega
    · have : (64 : Nat) = 1 <<< 6 := rfl
      rw [this, Nat.or_comm, ← Nat.shiftLeft_add_eq_or_of_lt (by omega)]; omega
  have e3 : (k + 8 * f + h) ||| z <<< 7 = k + 8 * f + h + 128 * z := by rw [Nat.or_comm, ← Nat.shiftLeft_add_eq_or_of_lt (by omega), s7]; omega
  have e4 : (k + 8 * f + h + 128 * z) ||| y <<< 14 = k + 8 * f + h + 128 * z + 16384 * y := by rw [Nat.or_comm, ← Nat.shiftLeft_add_eq_or_of_lt (by omega), s14]; omega
  rw [e1, e2, e3, e4]
section MQS
variable {F n p : Nat} {t : Nat → Nat}
theorem RQ.pre {cl : List Nat} {mi : Nat} {DN : DT} {x : Option (Int32 × St)} {s s1 : St} {r : Option (List QT) × Nat} (h : RQ F t n p cl DN x s1 mi r) (f : FM EQ p s s1) : RQ F t n p cl DN x s mi r := by
  refine ⟨fun hr => ?_, fun cc hc => ?_⟩
  · obtain ⟨s', e1, e2⟩ := h.1 hr
    exact ⟨s', e1, f.trans e2⟩
  · obtain ⟨s', m', w', c', a', cm', e1, e2, e3, e4⟩ := h.2 cc hc
    exact ⟨s', m', w', c', a', cm', e1, e2, f.trans e3, e4⟩
theorem RQ.fail {cl : List Nat} {mi : Nat} {DN : DT} {x : Option (Int32 × St)} {s : St} {j : Nat} (h : ∃ s', x = some (io j, s') ∧ FM EQ p s s') : RQ F t n p cl DN x s mi (none, j) := ⟨fun _ => h, fun cc hc => by cases hc⟩
theorem RQ.imp {cl : List Nat} {mi : Nat} {DN DN' : DT} {x : Option (Int32 × St)} {s : St} {r : Option (List QT) × Nat} (h : RQ F t n p cl DN x s mi r) (hh : ∀ cc a' w' c' cm', r.1 = some cc → DN cc r.2 a' w' c' cm' → DN' cc r.2 a' w' c' cm') : RQ F t n p cl DN' x s mi r :=
  ⟨h.1, fun cc hc => by
    obtain ⟨s', m', w', c', a', cm', e1, e2, e3, e4, e5, e6⟩ := h.2 cc hc
    exact ⟨s', m', w', c', a', cm', e1, e2, e3, e4, e5, hh _ _ _ _ _ hc e6⟩⟩
/-- a code is put, and the unit is whole -/
theorem put_end {st cm x y : Nat} {w cl : List Nat} {c a : List PR} {s : St} (hF : 5000 ≤ F) (K : QQ t n p st w c a cm cl s) (hz : c.length + w.length ≤ 62) : ∃ s', (f_M_puts F s (io x) (io y)).bind (fun z => (f_M_endsUnit F z).bind (fun z => some z)) = some s' ∧ FM EQ p s s' ∧ QQ t n p 2 (flN w (c ++ [(x, y)])).1 (flN w (c ++ [(x, y)])).2 a cm cl s' := by
  obtain ⟨K1, K2, K3, K4, f0, hf0, e0⟩ := K
  have e1 := puts_eq (F := F) (x := x) (y := y) K1 (by omega)
  obtain ⟨s', b1, b2, b3, b4⟩ := endsUnit_eq (F := F) w F _ _ (K1.code (x := x) (y := y)) K4 (by omega) (by rw [List.length_append]; show c.length + 1 + w.length ≤ 63; omega)
  have b1' : f_M_endsUnit F (sCd s p c.length x y) = some s' := b1
  have fm : FM EQ p s s' := (FM.cd FM.rf (by omega)).trans (b4.wide (by decide))
  refine ⟨s', by rw [e1, Option.bind_some, b1', Option.bind_some], fm, b2, b3, fm.mt K3 (by decide), (flN_len w _).2 K4, f0, hf0, ?_⟩
  rw [b4.1.gi 2511 (by decide)]; exact e0
theorem num_Q {cm : Nat} {w cl : List Nat} {c a : List PR} (hF : 5000 ≤ F) (T : TXT t n) (hz : c.length + w.length ≤ 62) : ∀ k dg v i m s, dg + k = 4 → i ≤ n → n + 2 ≤ m + i → a.length ≤ i → QQ t n p 1 w c a cm cl s → gI s 2506 = io dg → gI s 2507 = io v →
    RQ F t n p cl (D6 w c a cm) (f_M_turns_b49 F m s (io i)) s (m + i) (some [(35, (nb t k v i).1, none)], (nb t k v i).2) := by
  have hn := T.1
  have stop : ∀ k dg v i m s, i ≤ n → n + 2 ≤ m + i → a.length ≤ i → QQ t n p 1 w c a cm cl s → gI s 2506 = io dg → gI s 2507 = io v → dg ≤ 4 → (k = 0 → dg = 4) → (k ≠ 0 → dgt (t i) = false) → nb t k v i = (v, i) → RQ F t n p cl (D6 w c a cm) (f_M_turns_b49 F m s (io i)) s (m + i) (some [(35, (nb t k v i).1, none)], (nb t k v i).2) := by
    intro k dg v i m s hi hm ha K e6 e7 hdg h0 h1 hnb
    obtain ⟨m, rfl⟩ : ∃ m', m = m' + 1 := ⟨m - 1, by omega⟩
    have K2 := K.2.1
    have K3 := K.2.2.1
    rw [hnb]
    refine ⟨fun h => (by cases h), fun cc hc => ?_⟩
    cases hc
    obtain ⟨s', b1, b2, b3⟩ := put_end (F := F) (x := 1) (y := v) hF K hz
    have en : f_M_endsNumber F s = some s' := by
      simp (disch := omega) only [f_M_endsNumber, Option.bind_some, Nat.reduceEqDiff, Nat.add_zero, Nat.zero_add, Nat.reduceLT, Nat.reduceLeDiff, Nat.reduceAdd, Nat.reduceSub, Nat.reduceMul, Nat.reduceDiv, Nat.lt_irrefl, Nat.not_lt_zero, Nat.zero_le, Nat.one_ne_zero, Nat.succ_ne_zero,  lt_def, i32_lit, reduceIte, P_isIn_eq, M_isIn_eq, M_goes_eq, or_false, false_or, or_true, true_or, and_true, true_and, and_false, false_and, not_true, not_false_eq_true, eq_self, if_true, if_false, not_or, not_and, Nat.not_lt, Nat.not_le, K2, io_eq, e7]
      exact b1
    refine ⟨s', m + 1, _, _, _, _, ?_, rfl, b2, b3, ha, rfl, ⟨[], (List.append_nil _).symm⟩, [(1, v)], MCs.one (Or.inl ⟨rfl, rfl⟩), rfl, rfl⟩
    show _ = TL2 F n t (m + 1) s' i
    unfold TL2
    by_cases hin : n ≤ i
    · rw [if_pos hin]
      simp (disch := omega) only [f_M_turns_b49, Option.bind_some, Nat.reduceEqDiff, Nat.add_zero, Nat.zero_add, Nat.reduceLT, Nat.reduceLeDiff, Nat.reduceAdd, Nat.reduceSub, Nat.reduceMul, Nat.reduceDiv, Nat.lt_irrefl, Nat.not_lt_zero, Nat.zero_le, Nat.one_ne_zero, Nat.succ_ne_zero,  lt_def, i32_lit, reduceIte, P_isIn_eq, M_isIn_eq, M_goes_eq, or_false, false_or, or_true, true_or, and_true, true_and, and_false, false_and, not_true, not_false_eq_true, eq_self, if_true, if_false, not_or, not_and, Nat.not_lt, Nat.not_le, K3.1, io_le, hin, K2, io_eq, en]
    · rw [if_neg hin]
      have e := K3.2 i (by omega)
      have hfig := isFigure_eq (F := F) (s := s) (tlt (i := i) T)
      by_cases hd : dgt (t i) = true
      · rw [if_pos hd] at hfig
        have hdg4 : dg = 4 := h0 (Classical.byContradiction fun hk => by rw [h1 hk] at hd; cases hd)
        simp (disch := omega) only [f_M_turns_b49, f_M_reads, f_M_goesOn, Option.bind_some, Nat.reduceEqDiff, Nat.add_zero, Nat.zero_add, Nat.reduceLT, Nat.reduceLeDiff, Nat.reduceAdd, Nat.reduceSub, Nat.reduceMul, Nat.reduceDiv, Nat.lt_irrefl, Nat.not_lt_zero, Nat.zero_le, Nat.one_ne_zero, Nat.succ_ne_zero,  lt_def, i32_lit, reduceIte, P_isIn_eq, M_isIn_eq, M_goes_eq, or_false, false_or, or_true, true_or, and_true, true_and, and_false, false_and, not_true, not_false_eq_true, eq_self, if_true, if_false, not_or, not_and, Nat.not_lt, Nat.not_le, K3.1, io_le, hin, K2, io_eq, ix_io, e, hfig, e6, hdg4, en, io_add, Nat.add_sub_cancel]
      · rw [if_neg hd] at hfig
        simp (disch := omega) only [f_M_turns_b49, f_M_reads, f_M_goesOn, Option.bind_some, Nat.reduceEqDiff, Nat.add_zero, Nat.zero_add, Nat.reduceLT, Nat.reduceLeDiff, Nat.reduceAdd, Nat.reduceSub, Nat.reduceMul, Nat.reduceDiv, Nat.lt_irrefl, Nat.not_lt_zero, Nat.zero_le, Nat.one_ne_zero, Nat.succ_ne_zero,  lt_def, i32_lit, reduceIte, P_isIn_eq, M_isIn_eq, M_goes_eq, or_false, false_or, or_true, true_or, and_true, true_and, and_false, false_and, not_true, not_false_eq_true, eq_self, if_true, if_false, not_or, not_and, Nat.not_lt, Nat.not_le, K3.1, io_le, hin, K2, io_eq, ix_io, e, hfig, en, io_add, Nat.add_sub_cancel]
  intro k
  induction k with
  | zero =>
    intro dg v i m s hk hi hm ha K e6 e7
    exact stop 0 dg v i m s hi hm ha K e6 e7 (by omega) (fun _ => by omega) (fun h => absurd rfl h) rfl
  | succ k ih =>
    intro dg v i m s hk hi hm ha K e6 e7
    by_cases hd : dgt (t i) = true
    · obtain ⟨m, rfl⟩ : ∃ m', m = m' + 1 := ⟨m - 1, by omega⟩
      obtain ⟨K1, K2, K3, K4, f0, hf0, e0⟩ := K
      unfold nb
      rw [if_pos hd]
      have hin := T.bin hd
      have hin' : ¬ n ≤ i := by omega
      have h48 : 48 ≤ t i := by unfold dgt at hd; exact (of_decide_eq_true hd).1
      have e := K3.2 i hin
      have hfig := isFigure_eq (F := F) (s := s) (tlt (i := i) T)
      rw [if_pos hd] at hfig
      have hdg4 : ¬ dg = 4 := by omega
      have fm : FM EQ p s (sI (sI s 2507 (io (10 * v + (t i - 48)))) 2506 (io (dg + 1))) := (FM.rf.I (by decide)).I (by decide)
      have h := (ih (dg + 1) (10 * v + (t i - 48)) (i + 1) m (sI (sI s 2507 (io (10 * v + (t i - 48)))) 2506 (io (dg + 1))) (by omega) hin (by omega) (by omega) ⟨(K1.I).I, K2, K3, K4, f0, hf0, e0⟩ rfl rfl).pre fm
      rw [show m + (i + 1) = m + 1 + i by omega] at h
      have e9 : f_M_turns_b49 F (m + 1) s (io i) = f_M_turns_b49 F m (sI (sI s 2507 (io (10 * v + (t i - 48)))) 2506 (io (dg + 1))) (io (i + 1)) := by
        have e10 : io (10 * v + t i) - io 48 = io (10 * v + (t i - 48)) := by rw [io_sub (by omega)]; congr 1; omega
        simp (disch := omega) only [f_M_turns_b49, f_M_reads, f_M_goesOn, Option.bind_some, Nat.reduceEqDiff, Nat.add_zero, Nat.zero_add, Nat.reduceLT, Nat.reduceLeDiff, Nat.reduceAdd, Nat.reduceSub, Nat.reduceMul, Nat.reduceDiv, Nat.lt_irrefl, Nat.not_lt_zero, Nat.zero_le, Nat.one_ne_zero, Nat.succ_ne_zero,  lt_def, i32_lit, reduceIte, P_isIn_eq, M_isIn_eq, M_goes_eq, or_false, false_or, or_true, true_or, and_true, true_and, and_false, false_and, not_true, not_false_eq_true, eq_self, if_true, if_false, not_or, not_and, Nat.not_lt, Nat.not_le, K3.1, io_le, hin', K2, io_eq, ix_io, e, hfig, e6, e7, hdg4, io_add, io_mul, gI_sI, e10]
      rw [e9]
      exact h
    · exact stop (k + 1) dg v i m s hi hm ha K e6 e7 (by omega) (fun h => by omega) (fun _ => by simpa using hd) (by unfold nb; rw [if_neg hd])
/-- the end of an aggregate -/
theorem ends_agg {st cm b k f : Nat} {w cl : List Nat} {c a : List PR} {s : St} (hF : 5000 ≤ F) (K : QQ t n p st w c a cm cl s) (hz : c.length + w.length ≤ 62) (ha : a.length ≤ 40) (hb : b ≤ 1) (hk : k < 8) (hf : f < 8) (e9 : gI s 2509 = io k) (e10 : gI s 2510 = io f) {f0 : Nat} (hf0 : f0 < 128) (e11 : gI s 2511 = io f0) :
    ∃ s', f_M_endsAggregate F s (io b) = some s' ∧ FM EQ p s s' ∧ QQ t n p 2 (flN w (c ++ [(3, k + 8 * f + 64 * b + 128 * f0 + 16384 * a.length)])).1 (flN w (c ++ [(3, k + 8 * f + 64 * b + 128 * f0 + 16384 * a.length)])).2 a cm cl s' := by
  obtain ⟨s', b1, b2, b3⟩ := put_end (F := F) (x := 3) (y := k + 8 * f + 64 * b + 128 * f0 + 16384 * a.length) hF K hz
  obtain ⟨K1, K2, K3, K4, -⟩ := K
  have e4 := K1.2.1
  have e46 := K1.2.2.2.2.1
  have hp := K1.1
  refine ⟨s', ?_, b2, b3⟩
  rcases (by omega : b = 0 ∨ b = 1) with rfl | rfl
  · have hb0 := its_bits (y := a.length) hk hf (Or.inl rfl) hf0
    have e : io k ||| io f <<< io 3 ||| io 0 ||| io f0 <<< io 7 ||| io a.length <<< io 14 = io (k + 8 * f + 64 * 0 + 128 * f0 + 16384 * a.length) := by
      simp (disch := omega) only [io_shl, io_or]
      rw [hb0]
    simp (disch := omega) only [f_M_endsAggregate, f_M_endsAggregate_b21, Option.bind_some, Nat.reduceEqDiff, Nat.add_zero, Nat.zero_add, Nat.reduceLT, Nat.reduceLeDiff, Nat.reduceAdd, Nat.reduceSub, Nat.reduceMul, Nat.reduceDiv, Nat.lt_irrefl, Nat.not_lt_zero, Nat.zero_le, Nat.one_ne_zero, Nat.succ_ne_zero,  lt_def, i32_lit, reduceIte, P_isIn_eq, M_isIn_eq, M_goes_eq, or_false, false_or, or_true, true_or, and_true, true_and, and_false, false_and, not_true, not_false_eq_true, eq_self, if_true, if_false, not_or, not_and, Nat.not_lt, Nat.not_le, e9, e10, e11, e4, ix_io, e46, io_and, and31]
    rw [e]
    exact b1
  · have hb0 := its_bits (y := a.length) hk hf (Or.inr rfl) hf0
    have e : io k ||| io f <<< io 3 ||| io 64 ||| io f0 <<< io 7 ||| io a.length <<< io 14 = io (k + 8 * f + 64 * 1 + 128 * f0 + 16384 * a.length) := by
      simp (disch := omega) only [io_shl, io_or]
      rw [hb0]
    simp (disch := omega) only [f_M_endsAggregate, f_M_endsAggregate_b21, Option.bind_some, Nat.reduceEqDiff, Nat.add_zero, Nat.zero_add, Nat.reduceLT, Nat.reduceLeDiff, Nat.reduceAdd, Nat.reduceSub, Nat.reduceMul, Nat.reduceDiv, Nat.lt_irrefl, Nat.not_lt_zero, Nat.zero_le, Nat.one_ne_zero, Nat.succ_ne_zero,  lt_def, i32_lit, reduceIte, P_isIn_eq, M_isIn_eq, M_goes_eq, or_false, false_or, or_true, true_or, and_true, true_and, and_false, false_and, not_true, not_false_eq_true, eq_self, if_true, if_false, not_or, not_and, Nat.not_lt, Nat.not_le, e9, e10, e11, e4, ix_io, e46, io_and, and31, io_eq]
    rw [e]
    exact b1
theorem more_Q {cm i i0 m d k f : Nat} {w cl : List Nat} {c a : List PR} {s : St} (hF : 5000 ≤ F) (T : TXT t n) (hi : i ≤ n) (hm : n + 2 ≤ m + i) (h0 : i0 + 2 ≤ i) (hd : 4 * (n - i0) ≤ d + 9) (K : QQ t n p 5 w c a cm cl s) (hz : c.length + w.length ≤ i0) (ha : a.length ≤ i0) (hk : agc k = true) (hfo : (k = 110 ∧ f = 0) ∨ (k ≠ 110 ∧ fdc f = true)) (e9 : gI s 2509 = io (kxM k)) (e10 : gI s 2510 = io (fkM (k, f, none))) :
    RQ F t n p cl (D6 w c a cm) (TL2 F n t m s i) s (m + i) (pAg2 t d k f i) := by
  have hn := T.1
  have hkx := kxM_le k
  have hfx : fkM (k, f, none) ≤ 3 := by unfold fkM; split; omega; exact fxM_le _
  have ht := tlt (i := i) T
  have K2 := K.2.1
  have K3 := K.2.2.1
  obtain ⟨f0, hf0, e11⟩ := K.2.2.2.2
  unfold pAg2
  by_cases h58 : t i = 58
  · rw [if_pos h58]
    have i1 := T.in' h58
    obtain ⟨K1, -, -, K4, -⟩ := id K
    have e46 := K1.2.2.2.2.1
    have e4 := K1.2.1
    have hp := K1.1
    have fm : FM EQ p s (sI (sI (sI (sI s 2511 (io a.length)) 2517 (io 0)) 2519 (io 0)) 2505 (io 6)) := (((FM.rf.I11 (by decide) (by omega)).I (by decide)).I (by decide)).I (by decide)
    have e1 : f_M_reads_b31 F s (io (t i)) = some (io 1, sI (sI (sI (sI s 2511 (io a.length)) 2517 (io 0)) 2519 (io 0)) 2505 (io 6)) := by
      rw [h58]
      simp (disch := omega) only [f_M_reads_b31, f_M_goesMore, Option.bind_some, Nat.reduceEqDiff, Nat.add_zero, Nat.zero_add, Nat.reduceLT, Nat.reduceLeDiff, Nat.reduceAdd, Nat.reduceSub, Nat.reduceMul, Nat.reduceDiv, Nat.lt_irrefl, Nat.not_lt_zero, Nat.zero_le, Nat.one_ne_zero, Nat.succ_ne_zero,  lt_def, i32_lit, reduceIte, P_isIn_eq, M_isIn_eq, M_goes_eq, or_false, false_or, or_true, true_or, and_true, true_and, and_false, false_and, not_true, not_false_eq_true, eq_self, if_true, if_false, not_or, not_and, Nat.not_lt, Nat.not_le, K2, io_eq, e4, ix_io, e46]
    have KC : CQ t n p w c cm cl 0 6 a [] (sI (sI (sI (sI s 2511 (io a.length)) 2517 (io 0)) 2519 (io 0)) 2505 (io 6)) := ⟨(((K1.I).I).I).I, ⟨rfl, trivial, rfl⟩, rfl, K3, fun x hx => (List.not_mem_nil hx).elim⟩
    have h := MCC (F := F) hF T d 3 (i + 1) (m - 1) _ a [] 0 (by omega) i1 (by omega) (by omega) KC (by show a.length + 0 ≤ i + 1; omega) (by omega) (Or.inr (fun x w' e => by cases e))
    rw [show m - 1 + (i + 1) = m + i by omega] at h
    rw [TL_step (st := 6) T (fm.mt K3 (by decide)) i1 hm e1 rfl (by omega) (by omega) (by omega)]
    obtain ⟨g1, g2, g3⟩ := pC_gd T d 3 (i + 1) (by omega) i1
    unfold ag2E
    cases hr : (pC t d 3 (i + 1)).1 with
    | none =>
      obtain ⟨s', x1, x2⟩ := h.1 hr
      exact RQ.fail ⟨s', x1, fm.trans (x2.wide (by decide))⟩
    | some cc =>
      obtain ⟨y1, y2, y3, y4⟩ := g3 cc hr
      dsimp only
      unfold clo
      dsimp only
      rcases h.2 cc hr with ⟨s2, m2, a3, v3, x1, x2, x3, x4, x5⟩ | ⟨x0, s2, x1, x2⟩
      · have D : DNr 1 a [] cc a3 v3 := x5
        have hlen := D.len
        have hlen2 : a3.length + v3.length = a.length + 0 + cc.length := hlen
        obtain ⟨pd, z1, z2, z3⟩ := D
        obtain ⟨Q1, Q2, Q3, Q4, Q5⟩ := x4
        by_cases h41 : t (pC t d 3 (i + 1)).2 = 41
        · rw [if_pos h41]
          have j1 := T.in' h41
          obtain ⟨s3, b1, b2, b3, b4⟩ := putsA_eq (F := F) (lv := 0) (r := 1) (by omega) v3 F s2 a3 Q1 Q2 Q5 (by omega) (by omega)
          rw [z1, flA_all pd [] a3 z3 (fun x w' e => by cases e), z2] at b2 b3
          have b1' : f_M_putsAsked F s2 (io 1) = some s3 := b1
          have hac : (a ++ cc.map askE).length = a.length + cc.length := by rw [List.length_append, List.length_map]
          have fr : Fr (2511 :: 2505 :: 2517 :: 2519 :: EC) [41, 42, 43, 44, 45, 46, 47, 48, 49] s s3 := by
            refine Fr.trans ?_ (x3.1.wide (by decide) (by decide)) |>.trans (b4.1.wide (by decide) (by decide))
            exact (((Fr.rf.I (by decide)).I (by decide)).I (by decide)).I (by decide)
          have e9' : gI s3 2509 = io (kxM k) := by rw [fr.gi 2509 (by decide)]; exact e9
          have e10' : gI s3 2510 = io (fkM (k, f, none)) := by rw [fr.gi 2510 (by decide)]; exact e10
          have e11' : gI s3 2511 = io a.length := by rw [b4.1.gi 2511 (by decide), x3.1.gi 2511 (by decide)]; rfl
          have P : QQ t n p 11 w c (a ++ cc.map askE) cm cl s3 := ⟨b2, by rw [b4.1.gi 2505 (by decide)]; exact Q3, b4.mt Q4 (by decide), K4, a.length, by omega, e11'⟩
          obtain ⟨s4, d1, d2, d3⟩ := ends_agg (F := F) (b := 1) (k := kxM k) (f := fkM (k, f, none)) (f0 := a.length) hF P (by omega) (by rw [hac]; omega) (by omega) (by omega) (by omega) e9' e10' (by omega) e11'
          refine ⟨fun h => (by cases h), fun cq hc => ?_⟩
          cases hc
          have fm2 : FM EQ p s s4 := ((fm.trans (x3.wide (by decide))).trans (b4.wide (by decide))).trans d2
          refine ⟨s4, m2 - 1, _, _, _, _, ?_, by show m2 - 1 + ((pC t d 3 (i + 1)).2 + 1) = m + i; omega, fm2, d3, by rw [hac]; show a.length + cc.length ≤ (pC t d 3 (i + 1)).2 + 1; omega, rfl, ⟨cc.map askE, rfl⟩, [(3, _)], MCs.one (Or.inr (Or.inr (Or.inr ⟨hk, rfl, ?_, ?_, ?_, Or.inr ⟨cc, a, [], rfl, ?_, ?_, ?_, by rw [List.append_nil]⟩⟩))), rfl, rfl⟩
          · rw [x1]
            refine TL_step (st := 2) T (fm2.mt K3 (by decide)) j1 (by omega) ?_ d3.2.1 (by omega) (by omega) (by omega)
            have e19 : gI s3 2519 = io 0 := b3.2.2
            rw [h41]
            simp (disch := omega) only [f_M_reads_b31, f_M_goesAfter, Option.bind_some, Nat.reduceEqDiff, Nat.add_zero, Nat.zero_add, Nat.reduceLT, Nat.reduceLeDiff, Nat.reduceAdd, Nat.reduceSub, Nat.reduceMul, Nat.reduceDiv, Nat.lt_irrefl, Nat.not_lt_zero, Nat.zero_le, Nat.one_ne_zero, Nat.succ_ne_zero,  lt_def, i32_lit, reduceIte, P_isIn_eq, M_isIn_eq, M_goes_eq, or_false, false_or, or_true, true_or, and_true, true_and, and_false, false_and, not_true, not_false_eq_true, eq_self, if_true, if_false, not_or, not_and, Nat.not_lt, Nat.not_le, Q3, io_eq, b1', e19, d1]
          · show kxM k + 8 * fkM (k, f, none) + 64 * 1 + 128 * a.length + 16384 * (a ++ cc.map askE).length < 2147483648
            rw [hac]; omega
          · show (kxM k + 8 * fkM (k, f, none) + 64 * 1 + 128 * a.length + 16384 * (a ++ cc.map askE).length) % 8 = kxM k
            omega
          · show (kxM k + 8 * fkM (k, f, none) + 64 * 1 + 128 * a.length + 16384 * (a ++ cc.map askE).length) / 8 % 8 = fkM (k, f, none)
            omega
          · show (kxM k + 8 * fkM (k, f, none) + 64 * 1 + 128 * a.length + 16384 * (a ++ cc.map askE).length) / 64 % 2 = 1
            omega
          · show (kxM k + 8 * fkM (k, f, none) + 64 * 1 + 128 * a.length + 16384 * (a ++ cc.map askE).length) / 128 % 128 = a.length
            omega
          · show (kxM k + 8 * fkM (k, f, none) + 64 * 1 + 128 * a.length + 16384 * (a ++ cc.map askE).length) / 16384 = a.length + cc.length
            rw [hac]; omega
        · rw [if_neg h41]
          have hs4 := y4.1 (by omega)
          have hs3 := y4.2 (by omega)
          have n1 : ¬ t (pC t d 3 (i + 1)).2 = 38 := fun e => by rw [e] at hs4; exact absurd hs4 (by decide)
          have n2 : ¬ t (pC t d 3 (i + 1)).2 = 124 := fun e => by rw [e] at hs3; exact absurd hs3 (by decide)
          have ht := tlt (i := (pC t d 3 (i + 1)).2) T
          obtain ⟨s', q1, q2⟩ := TL_fail (E := EQ) (p := p) (F := F) (m := m2) (j := (pC t d 3 (i + 1)).2) (st := 11) Q4 g2 Q3 (by omega) (by omega) (fun _ => ⟨s2, by simp (disch := omega) only [f_M_reads_b31, f_M_goesAfter, Option.bind_some, Nat.reduceEqDiff, Nat.add_zero, Nat.zero_add, Nat.reduceLT, Nat.reduceLeDiff, Nat.reduceAdd, Nat.reduceSub, Nat.reduceMul, Nat.reduceDiv, Nat.lt_irrefl, Nat.not_lt_zero, Nat.zero_le, Nat.one_ne_zero, Nat.succ_ne_zero,  lt_def, i32_lit, reduceIte, P_isIn_eq, M_isIn_eq, M_goes_eq, or_false, false_or, or_true, true_or, and_true, true_and, and_false, false_and, not_true, not_false_eq_true, eq_self, if_true, if_false, not_or, not_and, Nat.not_lt, Nat.not_le, Q3, io_eq, n1, n2, h41], FM.rf⟩)
          exact RQ.fail ⟨s', by rw [x1, q1], (fm.trans (x3.wide (by decide))).trans q2⟩
      · rw [if_neg (by rw [x0, T.2.2 n (Nat.le_refl _)]; decide)]
        exact RQ.fail ⟨s2, by rw [x1, x0], fm.trans (x2.wide (by decide))⟩
  · rw [if_neg h58]
    unfold clo
    dsimp only
    by_cases h41 : t i = 41
    · rw [if_pos h41]
      have i1 := T.in' h41
      obtain ⟨s4, d1, d2, d3⟩ := ends_agg (F := F) (b := 0) (k := kxM k) (f := fkM (k, f, none)) (f0 := f0) hF K (by omega) (by omega) (by omega) (by omega) (by omega) e9 e10 hf0 e11
      refine ⟨fun h => (by cases h), fun cq hc => ?_⟩
      cases hc
      refine ⟨s4, m - 1, _, _, _, _, ?_, by show m - 1 + (i + 1) = m + i; omega, d2, d3, by show a.length ≤ i + 1; omega, rfl, ⟨[], (List.append_nil _).symm⟩, [(3, _)], MCs.one (Or.inr (Or.inr (Or.inr ⟨hk, rfl, ?_, ?_, ?_, Or.inl ⟨rfl, ?_⟩⟩))), rfl, rfl⟩
      · refine TL_step (st := 2) T (d2.mt K3 (by decide)) i1 hm ?_ d3.2.1 (by omega) (by omega) (by omega)
        rw [h41]
        simp (disch := omega) only [f_M_reads_b31, f_M_goesMore, Option.bind_some, Nat.reduceEqDiff, Nat.add_zero, Nat.zero_add, Nat.reduceLT, Nat.reduceLeDiff, Nat.reduceAdd, Nat.reduceSub, Nat.reduceMul, Nat.reduceDiv, Nat.lt_irrefl, Nat.not_lt_zero, Nat.zero_le, Nat.one_ne_zero, Nat.succ_ne_zero,  lt_def, i32_lit, reduceIte, P_isIn_eq, M_isIn_eq, M_goes_eq, or_false, false_or, or_true, true_or, and_true, true_and, and_false, false_and, not_true, not_false_eq_true, eq_self, if_true, if_false, not_or, not_and, Nat.not_lt, Nat.not_le, K2, io_eq, d1]
      · show kxM k + 8 * fkM (k, f, none) + 64 * 0 + 128 * f0 + 16384 * a.length < 2147483648
        omega
      · show (kxM k + 8 * fkM (k, f, none) + 64 * 0 + 128 * f0 + 16384 * a.length) % 8 = kxM k
        omega
      · show (kxM k + 8 * fkM (k, f, none) + 64 * 0 + 128 * f0 + 16384 * a.length) / 8 % 8 = fkM (k, f, none)
        omega
      · show (kxM k + 8 * fkM (k, f, none) + 64 * 0 + 128 * f0 + 16384 * a.length) / 64 % 2 = 0
        omega
    · rw [if_neg h41]
      have e46 := K.1.2.2.2.2.1
      have e4 := K.1.2.1
      have hp := K.1.1
      refine RQ.fail (TL_fail (st := 5) K3 hi K2 (by omega) (by omega) (fun _ => ⟨sI (sI (sI (sI s 2511 (io a.length)) 2517 (io 0)) 2519 (io 0)) 2505 (io 6), ?_, (((FM.rf.I11 (by decide) (by omega)).I (by decide)).I (by decide)).I (by decide)⟩))
      simp (disch := omega) only [f_M_reads_b31, f_M_goesMore, Option.bind_some, Nat.reduceEqDiff, Nat.add_zero, Nat.zero_add, Nat.reduceLT, Nat.reduceLeDiff, Nat.reduceAdd, Nat.reduceSub, Nat.reduceMul, Nat.reduceDiv, Nat.lt_irrefl, Nat.not_lt_zero, Nat.zero_le, Nat.one_ne_zero, Nat.succ_ne_zero,  lt_def, i32_lit, reduceIte, P_isIn_eq, M_isIn_eq, M_goes_eq, or_false, false_or, or_true, true_or, and_true, true_and, and_false, false_and, not_true, not_false_eq_true, eq_self, if_true, if_false, not_or, not_and, Nat.not_lt, Nat.not_le, K2, io_eq, e4, ix_io, e46, h41, h58]
theorem agg_Q {cm i m d : Nat} {w cl : List Nat} {c a : List PR} {s : St} (hF : 5000 ≤ F) (T : TXT t n) (hm : n + 2 ≤ m + i) (hd : 4 * (n - i) ≤ d + 9) (K : QQ t n p 0 w c a cm cl s) (hz : c.length + w.length ≤ i) (ha : a.length ≤ i) (hk : agc (t i) = true) (hnd : ¬ dgt (t i) = true) :
    RQ F t n p cl (D6 w c a cm) (TL2 F n t m s i) s (m + i) (pAg t d i) := by
  have hn := T.1
  have i1 := T.bin hk
  have ht := tlt (i := i) T
  have hkx := kxM_le (t i)
  obtain ⟨K1, K2, K3, K4, f0, hf0, e11⟩ := K
  have hfig := isFigure_eq (F := F) (s := s) ht
  rw [if_neg hnd] at hfig
  have hko := kindM_eq (F := F) (s := s) ht
  rw [if_pos hk] at hko
  have n1 : ¬ t i = 45 := fun e => by rw [e] at hk; exact absurd hk (by decide)
  have n2 : ¬ t i = 40 := fun e => by rw [e] at hk; exact absurd hk (by decide)
  have fm : FM EQ p s (sI (sI (sI s 2509 (io (kxM (t i)))) 2510 (io 0)) 2505 (io 3)) := ((FM.rf.I (by decide)).I (by decide)).I (by decide)
  have e1 : f_M_reads_b31 F s (io (t i)) = some (io 1, sI (sI (sI s 2509 (io (kxM (t i)))) 2510 (io 0)) 2505 (io 3)) := by
    simp (disch := omega) only [f_M_reads_b31, f_M_goesToUnit, Option.bind_some, Nat.reduceEqDiff, Nat.add_zero, Nat.zero_add, Nat.reduceLT, Nat.reduceLeDiff, Nat.reduceAdd, Nat.reduceSub, Nat.reduceMul, Nat.reduceDiv, Nat.lt_irrefl, Nat.not_lt_zero, Nat.zero_le, Nat.one_ne_zero, Nat.succ_ne_zero,  lt_def, i32_lit, reduceIte, P_isIn_eq, M_isIn_eq, M_goes_eq, or_false, false_or, or_true, true_or, and_true, true_and, and_false, false_and, not_true, not_false_eq_true, eq_self, if_true, if_false, not_or, not_and, Nat.not_lt, Nat.not_le, K2, io_eq, hfig, n1, n2, hko, gI_sI, io_neg1]
  rw [TL_step (st := 3) T (fm.mt K3 (by decide)) i1 hm e1 rfl (by omega) (by omega) (by omega)]
  have ht1 := tlt (i := i + 1) T
  unfold pAg
  by_cases h40 : t (i + 1) = 40
  · have i2 := T.in' h40
    rw [if_pos h40]
    by_cases h110 : t i = 110
    · rw [if_pos h110]
      have hk0 : kxM (t i) = 0 := by rw [kxM_0]; exact h110
      have fm2 : FM EQ p s (sI (sI (sI (sI s 2509 (io (kxM (t i)))) 2510 (io 0)) 2505 (io 3)) 2505 (io 5)) := fm.I (by decide)
      have e2 : f_M_reads_b31 F (sI (sI (sI s 2509 (io (kxM (t i)))) 2510 (io 0)) 2505 (io 3)) (io (t (i + 1))) = some (io 1, sI (sI (sI (sI s 2509 (io (kxM (t i)))) 2510 (io 0)) 2505 (io 3)) 2505 (io 5)) := by
        simp (disch := omega) only [f_M_reads_b31, Option.bind_some, Nat.reduceEqDiff, Nat.add_zero, Nat.zero_add, Nat.reduceLT, Nat.reduceLeDiff, Nat.reduceAdd, Nat.reduceSub, Nat.reduceMul, Nat.reduceDiv, Nat.lt_irrefl, Nat.not_lt_zero, Nat.zero_le, Nat.one_ne_zero, Nat.succ_ne_zero,  lt_def, i32_lit, reduceIte, P_isIn_eq, M_isIn_eq, M_goes_eq, or_false, false_or, or_true, true_or, and_true, true_and, and_false, false_and, not_true, not_false_eq_true, eq_self, if_true, if_false, not_or, not_and, Nat.not_lt, Nat.not_le, gI_sI, io_eq, hk0, h40]
      rw [TL_step (st := 5) T (fm2.mt K3 (by decide)) i2 (by omega) e2 rfl (by omega) (by omega) (by omega)]
      have h := (more_Q (F := F) (i := i + 2) (i0 := i) (m := m - 1 - 1) (d := d) (k := t i) (f := 0) (s := sI (sI (sI (sI s 2509 (io (kxM (t i)))) 2510 (io 0)) 2505 (io 3)) 2505 (io 5)) hF T i2 (by omega) (by omega) hd ⟨(((K1.I).I).I).I, rfl, K3, K4, f0, hf0, e11⟩ hz ha hk (Or.inl ⟨h110, rfl⟩) rfl (by unfold fkM; rw [if_pos h110]; rfl)).pre fm2
      rw [show m - 1 - 1 + (i + 2) = m + i by omega] at h
      exact h
    · rw [if_neg h110]
      have hk0 : ¬ kxM (t i) = 0 := by rw [kxM_0]; exact h110
      have fm2 : FM EQ p s (sI (sI (sI (sI s 2509 (io (kxM (t i)))) 2510 (io 0)) 2505 (io 3)) 2505 (io 4)) := fm.I (by decide)
      have e2 : f_M_reads_b31 F (sI (sI (sI s 2509 (io (kxM (t i)))) 2510 (io 0)) 2505 (io 3)) (io (t (i + 1))) = some (io 1, sI (sI (sI (sI s 2509 (io (kxM (t i)))) 2510 (io 0)) 2505 (io 3)) 2505 (io 4)) := by
        simp (disch := omega) only [f_M_reads_b31, Option.bind_some, Nat.reduceEqDiff, Nat.add_zero, Nat.zero_add, Nat.reduceLT, Nat.reduceLeDiff, Nat.reduceAdd, Nat.reduceSub, Nat.reduceMul, Nat.reduceDiv, Nat.lt_irrefl, Nat.not_lt_zero, Nat.zero_le, Nat.one_ne_zero, Nat.succ_ne_zero,  lt_def, i32_lit, reduceIte, P_isIn_eq, M_isIn_eq, M_goes_eq, or_false, false_or, or_true, true_or, and_true, true_and, and_false, false_and, not_true, not_false_eq_true, eq_self, if_true, if_false, not_or, not_and, Nat.not_lt, Nat.not_le, gI_sI, io_eq, hk0, h40]
      rw [TL_step (st := 4) T (fm2.mt K3 (by decide)) i2 (by omega) e2 rfl (by omega) (by omega) (by omega)]
      have ht2 := tlt (i := i + 2) T
      have hfo := fieldM_eq (F := F) (s := sI (sI (sI (sI s 2509 (io (kxM (t i)))) 2510 (io 0)) 2505 (io 3)) 2505 (io 4)) ht2
      have hfx := fxM_le (t (i + 2))
      by_cases hf : fdc (t (i + 2)) = true
      · rw [if_pos hf] at hfo ⊢
        have i3 := T.bin hf
        have fm3 : FM EQ p s (sI (sI (sI (sI (sI (sI s 2509 (io (kxM (t i)))) 2510 (io 0)) 2505 (io 3)) 2505 (io 4)) 2510 (io (fxM (t (i + 2))))) 2505 (io 5)) := (fm2.I (by decide)).I (by decide)
        have e3 : f_M_reads_b31 F (sI (sI (sI (sI s 2509 (io (kxM (t i)))) 2510 (io 0)) 2505 (io 3)) 2505 (io 4)) (io (t (i + 2))) = some (io 1, sI (sI (sI (sI (sI (sI s 2509 (io (kxM (t i)))) 2510 (io 0)) 2505 (io 3)) 2505 (io 4)) 2510 (io (fxM (t (i + 2))))) 2505 (io 5)) := by
          simp (disch := omega) only [f_M_reads_b31, Option.bind_some, Nat.reduceEqDiff, Nat.add_zero, Nat.zero_add, Nat.reduceLT, Nat.reduceLeDiff, Nat.reduceAdd, Nat.reduceSub, Nat.reduceMul, Nat.reduceDiv, Nat.lt_irrefl, Nat.not_lt_zero, Nat.zero_le, Nat.one_ne_zero, Nat.succ_ne_zero,  lt_def, i32_lit, reduceIte, P_isIn_eq, M_isIn_eq, M_goes_eq, or_false, false_or, or_true, true_or, and_true, true_and, and_false, false_and, not_true, not_false_eq_true, eq_self, if_true, if_false, not_or, not_and, Nat.not_lt, Nat.not_le, gI_sI, io_eq, hfo, io_neg1]
        rw [TL_step (st := 5) T (fm3.mt K3 (by decide)) i3 (by omega) e3 rfl (by omega) (by omega) (by omega)]
        have h := (more_Q (F := F) (i := i + 3) (i0 := i) (m := m - 1 - 1 - 1) (d := d) (k := t i) (f := t (i + 2)) (s := sI (sI (sI (sI (sI (sI s 2509 (io (kxM (t i)))) 2510 (io 0)) 2505 (io 3)) 2505 (io 4)) 2510 (io (fxM (t (i + 2))))) 2505 (io 5)) hF T i3 (by omega) (by omega) hd ⟨(((((K1.I).I).I).I).I).I, rfl, K3, K4, f0, hf0, e11⟩ hz ha hk (Or.inr ⟨h110, hf⟩) rfl (by unfold fkM; rw [if_neg h110]; rfl)).pre fm3
        rw [show m - 1 - 1 - 1 + (i + 3) = m + i by omega] at h
        exact h
      · rw [if_neg hf] at hfo ⊢
        obtain ⟨s', q1, q2⟩ := TL_fail (E := EQ) (p := p) (F := F) (m := m - 1 - 1) (j := i + 2) (st := 4) (fm2.mt K3 (by decide)) i2 rfl (by omega) (by omega) (fun _ => ⟨sI (sI (sI (sI (sI (sI s 2509 (io (kxM (t i)))) 2510 (io 0)) 2505 (io 3)) 2505 (io 4)) 2510 (-io 1)) 2505 (io 5), by simp (disch := omega) only [f_M_reads_b31, Option.bind_some, Nat.reduceEqDiff, Nat.add_zero, Nat.zero_add, Nat.reduceLT, Nat.reduceLeDiff, Nat.reduceAdd, Nat.reduceSub, Nat.reduceMul, Nat.reduceDiv, Nat.lt_irrefl, Nat.not_lt_zero, Nat.zero_le, Nat.one_ne_zero, Nat.succ_ne_zero,  lt_def, i32_lit, reduceIte, P_isIn_eq, M_isIn_eq, M_goes_eq, or_false, false_or, or_true, true_or, and_true, true_and, and_false, false_and, not_true, not_false_eq_true, eq_self, if_true, if_false, not_or, not_and, Nat.not_lt, Nat.not_le, gI_sI, io_eq, hfo], (FM.rf.I (by decide)).I (by decide)⟩)
        exact RQ.fail ⟨s', q1, fm2.trans q2⟩
  · rw [if_neg h40]
    obtain ⟨s', q1, q2⟩ := TL_fail (E := EQ) (p := p) (F := F) (m := m - 1) (j := i + 1) (st := 3) (fm.mt K3 (by decide)) i1 rfl (by omega) (by omega) (fun _ => by
      by_cases hk0 : kxM (t i) = 0
      · exact ⟨_, by simp (disch := omega) only [f_M_reads_b31, Option.bind_some, Nat.reduceEqDiff, Nat.add_zero, Nat.zero_add, Nat.reduceLT, Nat.reduceLeDiff, Nat.reduceAdd, Nat.reduceSub, Nat.reduceMul, Nat.reduceDiv, Nat.lt_irrefl, Nat.not_lt_zero, Nat.zero_le, Nat.one_ne_zero, Nat.succ_ne_zero,  lt_def, i32_lit, reduceIte, P_isIn_eq, M_isIn_eq, M_goes_eq, or_false, false_or, or_true, true_or, and_true, true_and, and_false, false_and, not_true, not_false_eq_true, eq_self, if_true, if_false, not_or, not_and, Nat.not_lt, Nat.not_le, gI_sI, io_eq, hk0, h40]; rfl, FM.rf.I (by decide)⟩
      · exact ⟨_, by simp (disch := omega) only [f_M_reads_b31, Option.bind_some, Nat.reduceEqDiff, Nat.add_zero, Nat.zero_add, Nat.reduceLT, Nat.reduceLeDiff, Nat.reduceAdd, Nat.reduceSub, Nat.reduceMul, Nat.reduceDiv, Nat.lt_irrefl, Nat.not_lt_zero, Nat.zero_le, Nat.one_ne_zero, Nat.succ_ne_zero,  lt_def, i32_lit, reduceIte, P_isIn_eq, M_isIn_eq, M_goes_eq, or_false, false_or, or_true, true_or, and_true, true_and, and_false, false_and, not_true, not_false_eq_true, eq_self, if_true, if_false, not_or, not_and, Nat.not_lt, Nat.not_le, gI_sI, io_eq, hk0, h40]; rfl, FM.rf.I (by decide)⟩)
    exact RQ.fail ⟨s', q1, fm.trans q2⟩
end MQS
