/-! the reader reads as the grammar does -/
def RR {α : Type} (T : St → Nat → Nat → List α → Prop) (t : Nat → Nat) (n : Nat) (s : St) (i : Nat) (r : Option (List α) × Nat) (q' : Option Nat) (s' : St) : Prop :=
  FnR s s' ∧ RI t n s' r.2 ∧ sz s' + i ≤ sz s + r.2 ∧ (r.1 = none → q' = none) ∧ ∀ c, r.1 = some c → ∃ q, q' = some q ∧ T s' (r.2 - i) q c
theorem num_loop {F Z n : Nat} {t : Nat → Nat} (T : TXT t n) : ∀ k m v dg i s, dg + k = 4 → k < m → i ≤ n → RI t n s i → (0 < dg ∨ dgt (t i) = true) → ∃ s1, FnR s s1 ∧ RI t n s1 (nb t k v i).2 ∧ sz s1 = sz s ∧ f_Reader_readNumber_b4 F Z m s (io v) (io dg) = (if sz s1 < Z then (f_Node_init F (sN s1 z3) (some (sz s1)) (io 35) (io (nb t k v i).1) none none).bind (fun x => some (some (sz s1), x)) else none) := by
  intro k
  induction k with
  | zero =>
    intro m v dg i s hk hm hi H hd
    obtain ⟨m, rfl⟩ : ∃ m', m = m' + 1 := ⟨m - 1, by omega⟩
    have hdg : dg = 4 := by omega
    subst hdg
    refine ⟨s, FnR.rf, H, rfl, ?_⟩
    simp (disch := omega) only [f_Reader_readNumber_b4, Option.bind_some, Nat.reduceEqDiff, Nat.add_zero, Nat.zero_add, Nat.reduceLT, Nat.reduceLeDiff, Nat.reduceAdd, Nat.reduceSub, Nat.reduceMul, Nat.reduceDiv, Nat.lt_irrefl, Nat.not_lt_zero, Nat.zero_le, Nat.one_ne_zero, Nat.succ_ne_zero,  lt_def, i32_lit, reduceIte, P_isIn_eq, M_isIn_eq, M_goes_eq, or_false, false_or, or_true, true_or, and_true, true_and, and_false, false_and, not_true, not_false_eq_true, eq_self, if_true, if_false, not_or, not_and, Nat.not_lt, Nat.not_le, io_le, io_eq, Nat.le_refl, z3_eq, node_dgo, Option.bind_some, nb]
  | succ k ih =>
    intro m v dg i s hk hm hi H hd
    obtain ⟨m, rfl⟩ : ∃ m', m = m' + 1 := ⟨m - 1, by omega⟩
    have h4 : ¬ 4 ≤ dg := by omega
    have ht := tlt (i := i) T
    have hh := here_eq (F := F) T H hi
    have hdig := isDigit_eq (F := F) (s := s) ht
    have e38 := H.1
    unfold nb
    by_cases h : dgt (t i) = true
    · have i1 := T.bin h
      have h48 : 48 ≤ t i := by unfold dgt at h; exact (of_decide_eq_true h).1
      rw [if_pos h] at hdig ⊢
      obtain ⟨s1, a1, a2, a3, a4⟩ := ih m (10 * v + (t i - 48)) (dg + 1) (i + 1) (sI s 1538 (io (i + 1))) (by omega) (by omega) i1 H.at (Or.inl (by omega))
      refine ⟨s1, FnR.at.trans a1, a2, a3, ?_⟩
      simp (disch := omega) only [f_Reader_readNumber_b4, Option.bind_some, Nat.reduceEqDiff, Nat.add_zero, Nat.zero_add, Nat.reduceLT, Nat.reduceLeDiff, Nat.reduceAdd, Nat.reduceSub, Nat.reduceMul, Nat.reduceDiv, Nat.lt_irrefl, Nat.not_lt_zero, Nat.zero_le, Nat.one_ne_zero, Nat.succ_ne_zero,  lt_def, i32_lit, reduceIte, P_isIn_eq, M_isIn_eq, M_goes_eq, or_false, false_or, or_true, true_or, and_true, true_and, and_false, false_and, not_true, not_false_eq_true, eq_self, if_true, if_false, not_or, not_and, Nat.not_lt, Nat.not_le, io_le, h4, hh, hdig, io_eq, io_mul, io_sub, io_add, e38]
      exact a4
    · rw [if_neg h] at hdig ⊢
      have hd0 : 0 < dg := hd.resolve_right h
      have hd1 : ¬ dg = 0 := by omega
      refine ⟨s, FnR.rf, H, rfl, ?_⟩
      simp (disch := omega) only [f_Reader_readNumber_b4, Option.bind_some, Nat.reduceEqDiff, Nat.add_zero, Nat.zero_add, Nat.reduceLT, Nat.reduceLeDiff, Nat.reduceAdd, Nat.reduceSub, Nat.reduceMul, Nat.reduceDiv, Nat.lt_irrefl, Nat.not_lt_zero, Nat.zero_le, Nat.one_ne_zero, Nat.succ_ne_zero,  lt_def, i32_lit, reduceIte, P_isIn_eq, M_isIn_eq, M_goes_eq, or_false, false_or, or_true, true_or, and_true, true_and, and_false, false_and, not_true, not_false_eq_true, eq_self, if_true, if_false, not_or, not_and, Nat.not_lt, Nat.not_le, io_le, h4, hh, hdig, io_eq, hd1, z3_eq, node_dgo, Option.bind_some]
theorem readNumber_eq {F Z n i : Nat} (hF : 5000 ≤ F) {t : Nat → Nat} {s : St} (T : TXT t n) (hi : i ≤ n) (H : RI t n s i) (hZ : sz s + (n - i) ≤ Z) : ∃ q' s', f_Reader_readNumber F Z s = some (q', s') ∧ FnR s s' ∧ RI t n s' (pNum t i).2 ∧
    (((pNum t i).1 = none ∧ q' = none ∧ sz s' = sz s) ∨ ∃ v, (pNum t i).1 = some v ∧ q' = some (sz s) ∧ sz s' = sz s + 1 ∧ v ≤ 9999 ∧ nd s' (sz s) (io 35) (io v) none none) := by
  have g := num_gd T hi
  unfold pNum at g ⊢
  by_cases h : dgt (t i) = true
  · rw [if_pos h] at g ⊢
    have i1 := T.bin h
    obtain ⟨s1, a1, a2, a3, a4⟩ := num_loop (F := F) (Z := Z) T 4 F 0 0 i s (by omega) (by omega) hi H (Or.inr h)
    obtain ⟨s2, b1, b2, b3, b4, b5⟩ := node_new (F := F) (s := s1) (k := io 35) (n := io (nb t 4 0 i).1) (l := none) (r := none)
    rw [if_pos (by omega), b1, Option.bind_some] at a4
    refine ⟨some (sz s1), s2, a4, a1.trans b2, a2.fr b2 (by rw [b3]; exact a2.1), Or.inr ⟨_, rfl, by rw [a3], by omega, (g.2.2 _ rfl).2, by rw [← a3]; exact b5⟩⟩
  · rw [if_neg h]
    obtain ⟨F', rfl⟩ : ∃ m, F = m + 1 := ⟨F - 1, by omega⟩
    have hh := here_eq (F := F' + 1) T H hi
    have hdig := isDigit_eq (F := F' + 1) (s := s) (tlt (i := i) T)
    rw [if_neg h] at hdig
    refine ⟨none, s, ?_, FnR.rf, H, Or.inl ⟨rfl, rfl, rfl⟩⟩
    have n4 : ¬ 4 ≤ 0 := by omega
    simp (disch := omega) only [f_Reader_readNumber, f_Reader_readNumber_b4, Option.bind_some, Nat.reduceEqDiff, Nat.add_zero, Nat.zero_add, Nat.reduceLT, Nat.reduceLeDiff, Nat.reduceAdd, Nat.reduceSub, Nat.reduceMul, Nat.reduceDiv, Nat.lt_irrefl, Nat.not_lt_zero, Nat.zero_le, Nat.one_ne_zero, Nat.succ_ne_zero,  lt_def, i32_lit, reduceIte, P_isIn_eq, M_isIn_eq, M_goes_eq, or_false, false_or, or_true, true_or, and_true, true_and, and_false, false_and, not_true, not_false_eq_true, eq_self, if_true, if_false, not_or, not_and, Nat.not_lt, Nat.not_le, io_le, n4, hh, hdig, io_eq]
theorem readField_t {F Z n i : Nat} {t : Nat → Nat} {s : St} (T : TXT t n) (H : RI t n s i) (h : fdc (t i) = true) (hZ : sz s < Z) : ∃ s', f_Reader_readField F Z s = some (some (sz s), s') ∧ FnR s s' ∧ RI t n s' (i + 1) ∧ sz s' = sz s + 1 ∧ nd s' (sz s) (io (t i)) (io 0) none none := by
  have i1 := T.bin h
  have hh := here_eq (F := F) T H (by omega)
  have hf := isField_eq (F := F) (s := s) (tlt (i := i) T)
  rw [if_pos h] at hf
  have e38 := H.1
  obtain ⟨s2, b1, b2, b3, b4, b5⟩ := node_new (F := F) (s := sI s 1538 (io (i + 1))) (k := io (t i)) (n := io 0) (l := none) (r := none)
  refine ⟨s2, ?_, FnR.at.trans b2, H.at.fr b2 (by rw [b3]; rfl), b4, b5⟩
  have hz : sz (sI s 1538 (io (i + 1))) < Z := hZ
  simp (disch := omega) only [f_Reader_readField, Option.bind_some, Nat.reduceEqDiff, Nat.add_zero, Nat.zero_add, Nat.reduceLT, Nat.reduceLeDiff, Nat.reduceAdd, Nat.reduceSub, Nat.reduceMul, Nat.reduceDiv, Nat.lt_irrefl, Nat.not_lt_zero, Nat.zero_le, Nat.one_ne_zero, Nat.succ_ne_zero,  lt_def, i32_lit, reduceIte, P_isIn_eq, M_isIn_eq, M_goes_eq, or_false, false_or, or_true, true_or, and_true, true_and, and_false, false_and, not_true, not_false_eq_true, eq_self, if_true, if_false, not_or, not_and, Nat.not_lt, Nat.not_le, hh, hf, io_eq, io_add, e38, hz, z3_eq, node_dgo, Option.bind_some, b1]
  rfl
theorem readField_f {F Z n i : Nat} {t : Nat → Nat} {s : St} (T : TXT t n) (hi : i ≤ n) (H : RI t n s i) (h : ¬ fdc (t i) = true) : f_Reader_readField F Z s = some (none, s) := by
  have hh := here_eq (F := F) T H hi
  have hf := isField_eq (F := F) (s := s) (tlt (i := i) T)
  rw [if_neg h] at hf
  simp (disch := omega) only [f_Reader_readField, Option.bind_some, Nat.reduceEqDiff, Nat.add_zero, Nat.zero_add, Nat.reduceLT, Nat.reduceLeDiff, Nat.reduceAdd, Nat.reduceSub, Nat.reduceMul, Nat.reduceDiv, Nat.lt_irrefl, Nat.not_lt_zero, Nat.zero_le, Nat.one_ne_zero, Nat.succ_ne_zero,  lt_def, i32_lit, reduceIte, P_isIn_eq, M_isIn_eq, M_goes_eq, or_false, false_or, or_true, true_or, and_true, true_and, and_false, false_and, not_true, not_false_eq_true, eq_self, if_true, if_false, not_or, not_and, Nat.not_lt, Nat.not_le, hh, hf, io_eq]
theorem before_some {F Z l : Nat} {s : St} {k : Int32} (hZ : sz s < Z) : ∃ s', f_Reader_before F Z s k (some l) = some (some (sz s), s') ∧ FnR s s' ∧ gI s' = gI s ∧ sz s' = sz s + 1 ∧ nd s' (sz s) k (io 0) (some l) none := by
  obtain ⟨s2, b1, b2, b3, b4, b5⟩ := node_new (F := F) (s := s) (k := k) (n := io 0) (l := some l) (r := none)
  refine ⟨s2, ?_, b2, b3, b4, b5⟩
  have h0 : ¬ some l = none := by simp
  simp (disch := omega) only [f_Reader_before, Option.bind_some, Nat.reduceEqDiff, Nat.add_zero, Nat.zero_add, Nat.reduceLT, Nat.reduceLeDiff, Nat.reduceAdd, Nat.reduceSub, Nat.reduceMul, Nat.reduceDiv, Nat.lt_irrefl, Nat.not_lt_zero, Nat.zero_le, Nat.one_ne_zero, Nat.succ_ne_zero,  lt_def, i32_lit, reduceIte, P_isIn_eq, M_isIn_eq, M_goes_eq, or_false, false_or, or_true, true_or, and_true, true_and, and_false, false_and, not_true, not_false_eq_true, eq_self, if_true, if_false, not_or, not_and, Nat.not_lt, Nat.not_le, h0, hZ, z3_eq, node_dgo, Option.bind_some, b1]
theorem b62_eq {F Z n i b l f sg : Nat} (hF : 5000 ≤ F) {t : Nat → Nat} {s : St} (T : TXT t n) (hi : i ≤ n) (H : RI t n s i) (hb : b ≤ 1) (hZ : sz s + (n - i) + 1 + b ≤ Z) (h1 : cmc sg = true) (h2 : fdc f = true) (hl : nd s l (io f) (io 0) none none) :
    ∃ q' s', f_Reader_readComparison_b62 F Z s (some l) (io sg) (io b) = some (q', s') ∧ FnR s s' ∧ RI t n s' (pNum t i).2 ∧
    (((pNum t i).1 = none ∧ q' = none ∧ sz s' = sz s) ∨ ∃ v q, (pNum t i).1 = some v ∧ q' = some q ∧ sz s' = sz s + 2 + b ∧ TC s' 3 q [(sg, f, v, b)]) := by
  obtain ⟨q1, s1, a1, a2, a3, a4⟩ := readNumber_eq hF T hi H (Z := Z) (by omega)
  rcases a4 with ⟨c1, rfl, c3⟩ | ⟨v, c1, rfl, c3, c4, c5⟩
  · have hz : sz s1 ≤ Z := by omega
    refine ⟨none, s1, ?_, a2, a3, Or.inl ⟨c1, rfl, c3⟩⟩
    simp (disch := omega) only [f_Reader_readComparison_b62, Option.bind_some, Nat.reduceEqDiff, Nat.add_zero, Nat.zero_add, Nat.reduceLT, Nat.reduceLeDiff, Nat.reduceAdd, Nat.reduceSub, Nat.reduceMul, Nat.reduceDiv, Nat.lt_irrefl, Nat.not_lt_zero, Nat.zero_le, Nat.one_ne_zero, Nat.succ_ne_zero,  lt_def, i32_lit, reduceIte, P_isIn_eq, M_isIn_eq, M_goes_eq, or_false, false_or, or_true, true_or, and_true, true_and, and_false, false_and, not_true, not_false_eq_true, eq_self, if_true, if_false, not_or, not_and, Nat.not_lt, Nat.not_le, a1, hz]
  · have hin : i < n := by
      rcases Nat.lt_or_ge i n with h | h
      · exact h
      · unfold pNum at c1
        rw [T.2.2 i h, if_neg (by decide)] at c1
        cases c1
    have hz : sz s1 ≤ Z := by omega
    have hz2 : sz s1 < Z := by omega
    have hne : ¬ some (sz s) = none := by simp
    rcases (by omega : b = 0 ∨ b = 1) with rfl | rfl
    · obtain ⟨s2, b1, b2, b3, b4, b5⟩ := node_new (F := F) (s := s1) (k := io sg) (n := io 0) (l := some l) (r := some (sz s))
      refine ⟨some (sz s1), s2, ?_, a2.trans b2, a3.fr b2 (by rw [b3]; exact a3.1), Or.inr ⟨v, sz s1, c1, rfl, by omega, Or.inl ⟨sg, f, v, 0, l, sz s, rfl, Nat.le_refl _, h1, h2, c4, b5, hl.nm (a2.trans b2).nm, Or.inl ⟨rfl, c5.nm b2.nm⟩⟩⟩⟩
      simp (disch := omega) only [f_Reader_readComparison_b62, Option.bind_some, Nat.reduceEqDiff, Nat.add_zero, Nat.zero_add, Nat.reduceLT, Nat.reduceLeDiff, Nat.reduceAdd, Nat.reduceSub, Nat.reduceMul, Nat.reduceDiv, Nat.lt_irrefl, Nat.not_lt_zero, Nat.zero_le, Nat.one_ne_zero, Nat.succ_ne_zero,  lt_def, i32_lit, reduceIte, P_isIn_eq, M_isIn_eq, M_goes_eq, or_false, false_or, or_true, true_or, and_true, true_and, and_false, false_and, not_true, not_false_eq_true, eq_self, if_true, if_false, not_or, not_and, Nat.not_lt, Nat.not_le, a1, hz, hne, hz2, z3_eq, node_dgo, Option.bind_some, b1]
    · have hz3 : sz (sN s1 z3) < Z := by show sz s1 + 1 < Z; omega
      obtain ⟨s2, b1, b2, b3, b4, b5⟩ := before_some (F := F) (Z := Z) (s := sN s1 z3) (l := sz s) (k := io 126) hz3
      have hD : gD s2 (sz s1) = some (.inl (3, fun _ => io 0, fun _ => none, fun _ => 0)) := by
        rw [b2.2.2.2.2.2.2.2 (sz s1) (by show sz s1 < sz s1 + 1; omega), gD_sN, if_pos rfl]; rfl
      obtain ⟨s3, d1, ⟨e1, e2, e3, e4, e5, e6, e7, e8⟩, o', f1, f2⟩ := node_init (F := F) (k := io sg) (n := io 0) (l := some l) (r := some (sz (sN s1 z3))) hD
      have hz4 : sz s2 ≤ Z := by rw [b4]; show sz s1 + 1 + 1 ≤ Z; omega
      have fr : FnR s1 s3 := by
        refine ⟨fun k hk => by rw [e1, b3]; rfl, by rw [e2, b2.2.1]; rfl, by rw [e3, b2.2.2.1]; rfl, by rw [e4, b2.2.2.2.1]; rfl, by rw [e5, b2.2.2.2.2.1]; rfl, by rw [e6, b2.2.2.2.2.2.1]; rfl, by rw [e7, b4]; show sz s1 ≤ sz s1 + 1 + 1; omega, fun q hq => ?_⟩
        rw [e8 q (by omega), b2.2.2.2.2.2.2.2 q (by show q < sz s1 + 1; omega), gD_sN, if_neg (by omega)]
      have nm23 : nd s3 (sz (sN s1 z3)) (io 126) (io 0) (some (sz s)) none := by
        obtain ⟨g1, o, g2, g3⟩ := b5
        exact ⟨by rw [e7]; exact g1, o, by rw [e8 _ (by show sz s1 + 1 ≠ sz s1; omega)]; exact g2, g3⟩
      refine ⟨some (sz s1), s3, ?_, a2.trans fr, a3.fr fr (by rw [e1, b3]; exact a3.1), Or.inr ⟨v, sz s1, c1, rfl, by rw [e7, b4]; show sz s1 + 1 + 1 = _; omega, Or.inl ⟨sg, f, v, 1, l, sz (sN s1 z3), rfl, Nat.le_refl _, h1, h2, c4, ⟨by rw [e7, b4]; show sz s1 < sz s1 + 1 + 1; omega, o', f1, f2⟩, hl.nm (a2.trans fr).nm, Or.inr ⟨rfl, sz s, nm23, c5.nm fr.nm⟩⟩⟩⟩
      have hdg := dgo_at hD
      simp (disch := omega) only [f_Reader_readComparison_b62, Option.bind_some, Nat.reduceEqDiff, Nat.add_zero, Nat.zero_add, Nat.reduceLT, Nat.reduceLeDiff, Nat.reduceAdd, Nat.reduceSub, Nat.reduceMul, Nat.reduceDiv, Nat.lt_irrefl, Nat.not_lt_zero, Nat.zero_le, Nat.one_ne_zero, Nat.succ_ne_zero,  lt_def, i32_lit, reduceIte, P_isIn_eq, M_isIn_eq, M_goes_eq, or_false, false_or, or_true, true_or, and_true, true_and, and_false, false_and, not_true, not_false_eq_true, eq_self, if_true, if_false, not_or, not_and, Nat.not_lt, Nat.not_le, a1, hz, hne, hz2, z3_eq, io_eq, b1, hz4, hdg, d1]
theorem cmp_RR {F Z n i : Nat} (hF : 5000 ≤ F) {t : Nat → Nat} {s : St} (T : TXT t n) (hi : i ≤ n) (H : RI t n s i) (hZ : sz s + (n - i) ≤ Z) : ∃ q' s', f_Reader_readComparison F Z s = some (q', s') ∧ RR TC t n s i (pCmp t i) q' s' := by
  unfold pCmp
  by_cases h : fdc (t i) = true
  · rw [if_pos h]
    have i1 := T.bin h
    obtain ⟨s1, a1, a2, a3, a4, a5⟩ := readField_t (F := F) (Z := Z) T H h (by omega)
    have hz : sz s1 ≤ Z := by omega
    have hne : ¬ some (sz s) = none := by simp
    have hh := here_eq (F := F) T a3 i1
    have hc := isCmp_eq (F := F) (s := s1) (tlt (i := i + 1) T)
    have e38 := a3.1
    by_cases h2 : cmc (t (i + 1)) = true
    · rw [if_pos h2] at hc ⊢
      have i2 := T.bin h2
      have H2 : RI t n (sI s1 1538 (io (i + 2))) (i + 2) := a3.at
      have hh2 := here_eq (F := F) T H2 i2
      have key : ∀ b j s3 s5 q', b ≤ 1 → j = i + 2 + b → j ≤ n → FnR s1 s3 → sz s3 = sz s1 → FnR s3 s5 → RI t n s5 (pNum t j).2 → (((pNum t j).1 = none ∧ q' = none ∧ sz s5 = sz s3) ∨ ∃ v q, (pNum t j).1 = some v ∧ q' = some q ∧ sz s5 = sz s3 + 2 + b ∧ TC s5 3 q [(t (i + 1), t i, v, b)]) → RR TC t n s i (cmpE (t (i + 1)) (t i) b (pNum t j)) q' s5 := by
        intro b j s3 s5 q' hb hj hjn f1 f2 f3 f4 f5
        obtain ⟨g1, g2, g3⟩ := num_gd T hjn
        unfold cmpE
        rcases f5 with ⟨x1, x2, x3⟩ | ⟨v, q, x1, x2, x3, x4⟩
        · rw [x1]
          exact ⟨(a2.trans f1).trans f3, f4, by show sz s5 + i ≤ sz s + (pNum t j).2; omega, fun _ => x2, fun c hc => by cases hc⟩
        · have := (g3 v x1).1
          rw [x1]
          refine ⟨(a2.trans f1).trans f3, f4, by show sz s5 + i ≤ sz s + (pNum t j).2; omega, (fun h => by cases h), fun c hc => ?_⟩
          cases hc
          exact ⟨q, x2, x4.le (by show 3 ≤ (pNum t j).2 - i; omega)⟩
      by_cases h3 : t (i + 2) = 45
      · have i3 := T.in' h3
        rw [if_pos h3]
        obtain ⟨q', s5, c1, c2, c3, c4⟩ := b62_eq (b := 1) hF T i3 (H2.at (j := i + 3)) (by omega) (Z := Z) (by show sz s1 + (n - (i + 3)) + 1 + 1 ≤ Z; omega) h2 h (a5.nm (FnR.at.trans FnR.at).nm)
        refine ⟨q', s5, ?_, key 1 (i + 3) _ s5 q' (by omega) (by omega) i3 (FnR.at.trans FnR.at) rfl c2 c3 c4⟩
        simp (disch := omega) only [f_Reader_readComparison, Option.bind_some, Nat.reduceEqDiff, Nat.add_zero, Nat.zero_add, Nat.reduceLT, Nat.reduceLeDiff, Nat.reduceAdd, Nat.reduceSub, Nat.reduceMul, Nat.reduceDiv, Nat.lt_irrefl, Nat.not_lt_zero, Nat.zero_le, Nat.one_ne_zero, Nat.succ_ne_zero,  lt_def, i32_lit, reduceIte, P_isIn_eq, M_isIn_eq, M_goes_eq, or_false, false_or, or_true, true_or, and_true, true_and, and_false, false_and, not_true, not_false_eq_true, eq_self, if_true, if_false, not_or, not_and, Nat.not_lt, Nat.not_le, a1, hz, hh, hne, hc, io_eq, io_add, e38, hh2, h3, gI_sI, sI_sI] at c1 ⊢
        exact c1
      · rw [if_neg h3]
        obtain ⟨q', s5, c1, c2, c3, c4⟩ := b62_eq (b := 0) hF T i2 H2 (by omega) (Z := Z) (by show sz s1 + (n - (i + 2)) + 1 + 0 ≤ Z; omega) h2 h (a5.nm FnR.at.nm)
        refine ⟨q', s5, ?_, key 0 (i + 2) _ s5 q' (by omega) (by omega) i2 FnR.at rfl c2 c3 c4⟩
        have ht := tlt (i := i + 2) T
        simp (disch := omega) only [f_Reader_readComparison, Option.bind_some, Nat.reduceEqDiff, Nat.add_zero, Nat.zero_add, Nat.reduceLT, Nat.reduceLeDiff, Nat.reduceAdd, Nat.reduceSub, Nat.reduceMul, Nat.reduceDiv, Nat.lt_irrefl, Nat.not_lt_zero, Nat.zero_le, Nat.one_ne_zero, Nat.succ_ne_zero,  lt_def, i32_lit, reduceIte, P_isIn_eq, M_isIn_eq, M_goes_eq, or_false, false_or, or_true, true_or, and_true, true_and, and_false, false_and, not_true, not_false_eq_true, eq_self, if_true, if_false, not_or, not_and, Nat.not_lt, Nat.not_le, a1, hz, hh, hne, hc, io_eq, io_add, e38, hh2, h3] at c1 ⊢
        exact c1
    · rw [if_neg h2] at hc ⊢
      refine ⟨none, s1, ?_, a2, a3, by show sz s1 + i ≤ sz s + (i + 1); omega, fun _ => rfl, fun c hc => by cases hc⟩
      simp (disch := omega) only [f_Reader_readComparison, Option.bind_some, Nat.reduceEqDiff, Nat.add_zero, Nat.zero_add, Nat.reduceLT, Nat.reduceLeDiff, Nat.reduceAdd, Nat.reduceSub, Nat.reduceMul, Nat.reduceDiv, Nat.lt_irrefl, Nat.not_lt_zero, Nat.zero_le, Nat.one_ne_zero, Nat.succ_ne_zero,  lt_def, i32_lit, reduceIte, P_isIn_eq, M_isIn_eq, M_goes_eq, or_false, false_or, or_true, true_or, and_true, true_and, and_false, false_and, not_true, not_false_eq_true, eq_self, if_true, if_false, not_or, not_and, Nat.not_lt, Nat.not_le, a1, hz, hh, hne, hc]
  · rw [if_neg h]
    have hh := here_eq (F := F) T H hi
    have hz : sz s ≤ Z := by omega
    refine ⟨none, s, ?_, FnR.rf, H, by show sz s + i ≤ sz s + i; omega, fun _ => rfl, fun c hc => by cases hc⟩
    simp (disch := omega) only [f_Reader_readComparison, Option.bind_some, Nat.reduceEqDiff, Nat.add_zero, Nat.zero_add, Nat.reduceLT, Nat.reduceLeDiff, Nat.reduceAdd, Nat.reduceSub, Nat.reduceMul, Nat.reduceDiv, Nat.lt_irrefl, Nat.not_lt_zero, Nat.zero_le, Nat.one_ne_zero, Nat.succ_ne_zero,  lt_def, i32_lit, reduceIte, P_isIn_eq, M_isIn_eq, M_goes_eq, or_false, false_or, or_true, true_or, and_true, true_and, and_false, false_and, not_true, not_false_eq_true, eq_self, if_true, if_false, not_or, not_and, Nat.not_lt, Nat.not_le, readField_f T hi H h, hz, hh]
/-! chains, brackets, signs ahead: for both kinds of trees -/
def TOK {α : Type} (T : St → Nat → Nat → List α → Prop) : Prop := (∀ s s', NM s s' → ∀ d q c, T s d q c → T s' d q c) ∧ ∀ s d d' q c, T s d q c → d ≤ d' → T s d' q c
theorem TOK_C : TOK TC := ⟨fun _ _ f => TC.nm f, fun _ _ _ _ _ h hd => h.le hd⟩
theorem TOK_Q : TOK TQ := ⟨fun _ _ f => TQ.nm f, fun _ _ _ _ _ h hd => h.le hd⟩
theorem closed_RR {α : Type} {T : St → Nat → Nat → List α → Prop} (TT : TOK T) {F n i : Nat} {t : Nat → Nat} {s s' : St} {r : Option (List α) × Nat} {q' : Option Nat} (TX : TXT t n) (hr : r.2 ≤ n) (h : RR T t n s i r q' s') : ∃ q2 s2, f_Reader_closed F s' q' = some (q2, s2) ∧ RR T t n s i (clo t r) q2 s2 := by
  obtain ⟨h1, h2, h3, h4, h5⟩ := h
  unfold clo
  cases hc : r.1 with
  | none =>
    have := h4 hc
    subst this
    refine ⟨none, s', ?_, h1, h2, h3, fun _ => rfl, fun c h => by cases h⟩
    simp (disch := omega) only [f_Reader_closed, Option.bind_some, Nat.reduceEqDiff, Nat.add_zero, Nat.zero_add, Nat.reduceLT, Nat.reduceLeDiff, Nat.reduceAdd, Nat.reduceSub, Nat.reduceMul, Nat.reduceDiv, Nat.lt_irrefl, Nat.not_lt_zero, Nat.zero_le, Nat.one_ne_zero, Nat.succ_ne_zero,  lt_def, i32_lit, reduceIte, P_isIn_eq, M_isIn_eq, M_goes_eq, or_false, false_or, or_true, true_or, and_true, true_and, and_false, false_and, not_true, not_false_eq_true, eq_self, if_true, if_false, not_or, not_and, Nat.not_lt, Nat.not_le]
  | some c =>
    obtain ⟨q, rfl, h6⟩ := h5 c hc
    have hh := here_eq (F := F) TX h2 hr
    have hne : ¬ some q = none := by simp
    have e38 := h2.1
    have ht := tlt (i := r.2) TX
    dsimp only
    by_cases h41 : t r.2 = 41
    · rw [if_pos h41]
      refine ⟨some q, sI s' 1538 (io (r.2 + 1)), ?_, h1.trans FnR.at, h2.at, by show sz s' + i ≤ sz s + (r.2 + 1); omega, (fun h => by cases h), fun c' hc' => ?_⟩
      · simp (disch := omega) only [f_Reader_closed, Option.bind_some, Nat.reduceEqDiff, Nat.add_zero, Nat.zero_add, Nat.reduceLT, Nat.reduceLeDiff, Nat.reduceAdd, Nat.reduceSub, Nat.reduceMul, Nat.reduceDiv, Nat.lt_irrefl, Nat.not_lt_zero, Nat.zero_le, Nat.one_ne_zero, Nat.succ_ne_zero,  lt_def, i32_lit, reduceIte, P_isIn_eq, M_isIn_eq, M_goes_eq, or_false, false_or, or_true, true_or, and_true, true_and, and_false, false_and, not_true, not_false_eq_true, eq_self, if_true, if_false, not_or, not_and, Nat.not_lt, Nat.not_le, hne, hh, h41, io_eq, e38, io_add]
      · cases hc'
        exact ⟨q, rfl, TT.2 _ _ _ _ _ (TT.1 _ _ FnR.at.nm _ _ _ h6) (by show r.2 - i ≤ r.2 + 1 - i; omega)⟩
    · rw [if_neg h41]
      refine ⟨none, s', ?_, h1, h2, h3, fun _ => rfl, fun c h => by cases h⟩
      simp (disch := omega) only [f_Reader_closed, Option.bind_some, Nat.reduceEqDiff, Nat.add_zero, Nat.zero_add, Nat.reduceLT, Nat.reduceLeDiff, Nat.reduceAdd, Nat.reduceSub, Nat.reduceMul, Nat.reduceDiv, Nat.lt_irrefl, Nat.not_lt_zero, Nat.zero_le, Nat.one_ne_zero, Nat.succ_ne_zero,  lt_def, i32_lit, reduceIte, P_isIn_eq, M_isIn_eq, M_goes_eq, or_false, false_or, or_true, true_or, and_true, true_and, and_false, false_and, not_true, not_false_eq_true, eq_self, if_true, if_false, not_or, not_and, Nat.not_lt, Nat.not_le, hne, hh, h41, io_eq]
theorem before_RR {α : Type} {T : St → Nat → Nat → List α → Prop} (TT : TOK T) {x : α} {k F n i Z : Nat} {t : Nat → Nat} {s s0 s' : St} {r : Option (List α) × Nat} {q' : Option Nat} (hun : ∀ s q l d c, nd s q (io k) (io 0) (some l) none → T s d l c → T s (d + 1) q (c ++ [x])) (hr1 : i + 1 ≤ r.2) (hr : r.2 ≤ n) (hs0 : sz s = sz s0) (hf : FnR s0 s) (hZ : sz s + (n - i) ≤ Z) (hg : ∀ c, r.1 = some c → i + 1 < r.2) (h : RR T t n s (i + 1) r q' s') : ∃ q2 s2, f_Reader_before F Z s' (io k) q' = some (q2, s2) ∧ sz s2 ≤ Z ∧ RR T t n s0 i (post x r) q2 s2 := by
  obtain ⟨h1, h2, h3, h4, h5⟩ := h
  unfold post
  cases hc : r.1 with
  | none =>
    have := h4 hc
    subst this
    refine ⟨none, s', ?_, by omega, hf.trans h1, h2, by show sz s' + i ≤ sz s0 + r.2; omega, fun _ => rfl, fun c h => by cases h⟩
    simp (disch := omega) only [f_Reader_before, Option.bind_some, Nat.reduceEqDiff, Nat.add_zero, Nat.zero_add, Nat.reduceLT, Nat.reduceLeDiff, Nat.reduceAdd, Nat.reduceSub, Nat.reduceMul, Nat.reduceDiv, Nat.lt_irrefl, Nat.not_lt_zero, Nat.zero_le, Nat.one_ne_zero, Nat.succ_ne_zero,  lt_def, i32_lit, reduceIte, P_isIn_eq, M_isIn_eq, M_goes_eq, or_false, false_or, or_true, true_or, and_true, true_and, and_false, false_and, not_true, not_false_eq_true, eq_self, if_true, if_false, not_or, not_and, Nat.not_lt, Nat.not_le]
  | some c =>
    obtain ⟨q, rfl, h6⟩ := h5 c hc
    have := hg c hc
    obtain ⟨s2, b1, b2, b3, b4, b5⟩ := before_some (F := F) (Z := Z) (s := s') (l := q) (k := io k) (by omega)
    refine ⟨some (sz s'), s2, b1, by omega, (hf.trans h1).trans b2, h2.fr b2 (by rw [b3]; exact h2.1), by show sz s2 + i ≤ sz s0 + r.2; omega, (fun h => by cases h), fun c' hc' => ?_⟩
    cases hc'
    refine ⟨sz s', rfl, ?_⟩
    have := hun s2 (sz s') q (r.2 - (i + 1)) c b5 (TT.1 _ _ b2.nm _ _ _ h6)
    exact TT.2 _ _ _ _ _ this (by show r.2 - (i + 1) + 1 ≤ r.2 - i; omega)
def calR (R : Nat → St → Int32 → Int32 → Option (Option Nat × St)) (g : Nat) (s : St) (a : Int32) : Option (Option Nat × St) := if g = 2 then R 1 s a (io 0) else if g = 4 then R 3 s a (io 0) else R 0 s (io (g + 1)) a
theorem b20_eq {R : Nat → St → Int32 → Int32 → Option (Option Nat × St)} {F Z m g : Nat} {s : St} {l2 l3 l5 l6 : Int32} {l4 : Option Nat} (hg : g ≤ 4) : f_Reader_readChain_b20 R F Z (m + 1) s (io g) l2 l3 l4 l5 l6 = if l3 < l6 then some (none, s) else (calR R g s l2).bind (fun x => if sz x.2 ≤ Z then f_Reader_readChain_b60 R F Z (f_Reader_readChain_b20 R F Z m) x.2 (io g) l2 l3 l4 l5 l6 x.1 else none) := by
  unfold calR
  rcases (by omega : g = 0 ∨ g = 1 ∨ g = 2 ∨ g = 3 ∨ g = 4) with rfl | rfl | rfl | rfl | rfl <;> simp (disch := omega) only [f_Reader_readChain_b20, Option.bind_some, Nat.reduceEqDiff, Nat.add_zero, Nat.zero_add, Nat.reduceLT, Nat.reduceLeDiff, Nat.reduceAdd, Nat.reduceSub, Nat.reduceMul, Nat.reduceDiv, Nat.lt_irrefl, Nat.not_lt_zero, Nat.zero_le, Nat.one_ne_zero, Nat.succ_ne_zero,  lt_def, i32_lit, reduceIte, P_isIn_eq, M_isIn_eq, M_goes_eq, or_false, false_or, or_true, true_or, and_true, true_and, and_false, false_and, not_true, not_false_eq_true, eq_self, if_true, if_false, not_or, not_and, Nat.not_lt, Nat.not_le, io_eq, io_add]
section CHN
variable {α : Type} {T : St → Nat → Nat → List α → Prop} {tk : Nat → α} {g F Z n a i0 most : Nat} {R : Nat → St → Int32 → Int32 → Option (Option Nat × St)} {t : Nat → Nat} {part : Nat → Option (List α) × Nat} {s0 : St}
theorem chn_RR (TT : TOK T) (hg : g ≤ 4) (hbin : ∀ s q l r d c1 c2 sg, sgc g sg = true → nd s q (io sg) (io 0) (some l) (some r) → T s d l c1 → T s d r c2 → T s (d + 1) q (c1 ++ c2 ++ [tk sg])) (TX : TXT t n) (hmost : most ≤ 40)
    (hgd : ∀ i, i ≤ n → GD n i (part i) (fun _ _ => True)) (hpart : ∀ s i, i0 ≤ i → i ≤ n → RI t n s i → sz s + (n - i) ≤ Z → ∃ q' s', calR R g s (io a) = some (q', s') ∧ RR T t n s i (part i) q' s') (hZ : sz s0 + (n - i0) ≤ Z) :
    ∀ k m acc i u s qa, u + k = most → k < m → i0 < i → i ≤ n → FnR s0 s → RI t n s i → sz s + i0 ≤ sz s0 + i → T s (i - i0) qa acc →
    ∃ q' s', f_Reader_readChain_b93 R F Z (f_Reader_readChain_b20 R F Z m) s (io g) (io a) (io most) (io u) (some qa) = some (q', s') ∧ RR T t n s0 i0 (chn t part (sgc g) tk k acc i) q' s' := by
  have h00 : sgc g 0 = false := by
    rcases (by omega : g = 0 ∨ g = 1 ∨ g = 2 ∨ g = 3 ∨ g = 4) with rfl | rfl | rfl | rfl | rfl <;> rfl
  intro k
  induction k with
  | zero =>
    intro m acc i u s qa hu hm h0 hi f H hs hT
    have hu' : u = most := by omega
    have hh := here_eq (F := F) TX H hi
    refine ⟨some qa, s, ?_, f, H, hs, (fun h => by cases h), fun c hc => ?_⟩
    · simp (disch := omega) only [f_Reader_readChain_b93, Option.bind_some, Nat.reduceEqDiff, Nat.add_zero, Nat.zero_add, Nat.reduceLT, Nat.reduceLeDiff, Nat.reduceAdd, Nat.reduceSub, Nat.reduceMul, Nat.reduceDiv, Nat.lt_irrefl, Nat.not_lt_zero, Nat.zero_le, Nat.one_ne_zero, Nat.succ_ne_zero,  lt_def, i32_lit, reduceIte, P_isIn_eq, M_isIn_eq, M_goes_eq, or_false, false_or, or_true, true_or, and_true, true_and, and_false, false_and, not_true, not_false_eq_true, eq_self, if_true, if_false, not_or, not_and, Nat.not_lt, Nat.not_le, hh, hu', io_eq]
    · cases hc; exact ⟨qa, rfl, hT⟩
  | succ k ih =>
    intro m acc i u s qa hu hm h0 hi f H hs hT
    have hu' : ¬ u = most := by omega
    have hh := here_eq (F := F) TX H hi
    have hsg := isSign_eq (F := F) (s := s) hg (tlt (i := i) TX)
    have e38 := H.1
    unfold chn
    by_cases h : sgc g (t i) = true
    · have i1 := TX.bin h h00
      rw [if_pos h] at hsg ⊢
      obtain ⟨m, rfl⟩ : ∃ m', m = m' + 1 := ⟨m - 1, by omega⟩
      have H1 : RI t n (sI s 1538 (io (i + 1))) (i + 1) := H.at
      have f1 : FnR s0 (sI s 1538 (io (i + 1))) := f.trans FnR.at
      obtain ⟨g1, g2, g3⟩ := hgd (i + 1) i1
      obtain ⟨q', s2, p1, p2, p3, p4, p5, p6⟩ := hpart (sI s 1538 (io (i + 1))) (i + 1) (by omega) i1 H1 (by show sz s + (n - (i + 1)) ≤ Z; omega)
      have p4' : sz s2 + (i + 1) ≤ sz s + (part (i + 1)).2 := p4
      have hlt : ¬ most < u + 1 := by omega
      have hz : sz s2 ≤ Z := by omega
      cases hr : (part (i + 1)).1 with
      | none =>
        have := p5 hr
        subst this
        refine ⟨none, s2, ?_, f1.trans p2, p3, by show sz s2 + i0 ≤ sz s0 + (part (i + 1)).2; omega, fun _ => rfl, fun c h => by cases h⟩
        simp (disch := omega) only [f_Reader_readChain_b93, Option.bind_some, Nat.reduceEqDiff, Nat.add_zero, Nat.zero_add, Nat.reduceLT, Nat.reduceLeDiff, Nat.reduceAdd, Nat.reduceSub, Nat.reduceMul, Nat.reduceDiv, Nat.lt_irrefl, Nat.not_lt_zero, Nat.zero_le, Nat.one_ne_zero, Nat.succ_ne_zero,  lt_def, i32_lit, reduceIte, P_isIn_eq, M_isIn_eq, M_goes_eq, or_false, false_or, or_true, true_or, and_true, true_and, and_false, false_and, not_true, not_false_eq_true, eq_self, if_true, if_false, not_or, not_and, Nat.not_lt, Nat.not_le, hh, hsg, io_eq, hu', e38, io_add, b20_eq hg, io_lt, hlt, p1, hz, f_Reader_readChain_b60]
      | some c =>
        obtain ⟨q, rfl, p7⟩ := p6 c hr
        have gi := (g3 c hr).1
        have hne : ¬ some q = none := by simp
        have hu0 : ¬ u + 1 = 0 := by omega
        have hz2 : sz s2 < Z := by omega
        obtain ⟨s3, b1, b2, b3, b4, b5⟩ := node_new (F := F) (s := s2) (k := io (t i)) (n := io 0) (l := some qa) (r := some q)
        have f3 := (f1.trans p2).trans b2
        have H3 : RI t n s3 (part (i + 1)).2 := p3.fr b2 (by rw [b3]; exact p3.1)
        have hT3 : T s3 ((part (i + 1)).2 - i0) (sz s2) (acc ++ c ++ [tk (t i)]) := by
          have x1 := TT.2 _ _ ((part (i + 1)).2 - i0 - 1) _ _ (TT.1 _ _ ((FnR.at.trans p2).trans b2).nm _ _ _ hT) (by omega)
          have x2 := TT.2 _ _ ((part (i + 1)).2 - i0 - 1) _ _ (TT.1 _ _ b2.nm _ _ _ p7) (by omega)
          have x3 := hbin s3 (sz s2) qa q _ acc c (t i) h b5 x1 x2
          rw [show (part (i + 1)).2 - i0 - 1 + 1 = (part (i + 1)).2 - i0 by omega] at x3
          exact x3
        obtain ⟨q'', s4, r1, r2⟩ := ih m (acc ++ c ++ [tk (t i)]) (part (i + 1)).2 (u + 1) s3 (sz s2) (by omega) (by omega) (by omega) g2 f3 H3 (by omega) hT3
        refine ⟨q'', s4, ?_, r2⟩
        have e1 : f_Reader_readChain_b60 R F Z (f_Reader_readChain_b20 R F Z m) s2 (io g) (io a) (io most) (some qa) (io (t i)) (io (u + 1)) (some q) = some (q'', s4) := by
          simp (disch := omega) only [f_Reader_readChain_b60, Option.bind_some, Nat.reduceEqDiff, Nat.add_zero, Nat.zero_add, Nat.reduceLT, Nat.reduceLeDiff, Nat.reduceAdd, Nat.reduceSub, Nat.reduceMul, Nat.reduceDiv, Nat.lt_irrefl, Nat.not_lt_zero, Nat.zero_le, Nat.one_ne_zero, Nat.succ_ne_zero,  lt_def, i32_lit, reduceIte, P_isIn_eq, M_isIn_eq, M_goes_eq, or_false, false_or, or_true, true_or, and_true, true_and, and_false, false_and, not_true, not_false_eq_true, eq_self, if_true, if_false, not_or, not_and, Nat.not_lt, Nat.not_le, hne, io_eq, hu0, hz2, z3_eq, node_dgo, Option.bind_some, b1]
          exact r1
        simp (disch := omega) only [f_Reader_readChain_b93, Option.bind_some, Nat.reduceEqDiff, Nat.add_zero, Nat.zero_add, Nat.reduceLT, Nat.reduceLeDiff, Nat.reduceAdd, Nat.reduceSub, Nat.reduceMul, Nat.reduceDiv, Nat.lt_irrefl, Nat.not_lt_zero, Nat.zero_le, Nat.one_ne_zero, Nat.succ_ne_zero,  lt_def, i32_lit, reduceIte, P_isIn_eq, M_isIn_eq, M_goes_eq, or_false, false_or, or_true, true_or, and_true, true_and, and_false, false_and, not_true, not_false_eq_true, eq_self, if_true, if_false, not_or, not_and, Nat.not_lt, Nat.not_le, hh, hsg, io_eq, hu', e38, io_add, b20_eq hg, io_lt, hlt, p1, hz]
        exact e1
    · rw [if_neg h] at hsg ⊢
      refine ⟨some qa, s, ?_, f, H, hs, (fun h => by cases h), fun c hc => ?_⟩
      · simp (disch := omega) only [f_Reader_readChain_b93, Option.bind_some, Nat.reduceEqDiff, Nat.add_zero, Nat.zero_add, Nat.reduceLT, Nat.reduceLeDiff, Nat.reduceAdd, Nat.reduceSub, Nat.reduceMul, Nat.reduceDiv, Nat.lt_irrefl, Nat.not_lt_zero, Nat.zero_le, Nat.one_ne_zero, Nat.succ_ne_zero,  lt_def, i32_lit, reduceIte, P_isIn_eq, M_isIn_eq, M_goes_eq, or_false, false_or, or_true, true_or, and_true, true_and, and_false, false_and, not_true, not_false_eq_true, eq_self, if_true, if_false, not_or, not_and, Nat.not_lt, Nat.not_le, hh, hsg, io_eq, hu']
      · cases hc; exact ⟨qa, rfl, hT⟩
theorem chain_RR (hF : 5000 ≤ F) (TT : TOK T) (hg : g ≤ 4) (hbin : ∀ s q l r d c1 c2 sg, sgc g sg = true → nd s q (io sg) (io 0) (some l) (some r) → T s d l c1 → T s d r c2 → T s (d + 1) q (c1 ++ c2 ++ [tk sg])) (TX : TXT t n) (hmost : most = if g = 0 then 1 else 40) (h0 : i0 ≤ n)
    (hgd : ∀ i, i ≤ n → GD n i (part i) (fun _ _ => True)) (hpart : ∀ s i, i0 ≤ i → i ≤ n → RI t n s i → sz s + (n - i) ≤ Z → ∃ q' s', calR R g s (io a) = some (q', s') ∧ RR T t n s i (part i) q' s') (hZ : sz s0 + (n - i0) ≤ Z) (H : RI t n s0 i0) :
    ∃ q' s', f_Reader_readChain R F Z s0 (io g) (io a) = some (q', s') ∧ RR T t n s0 i0 (chain t part (sgc g) tk most i0) q' s' := by
  obtain ⟨F', rfl⟩ : ∃ m, F = m + 1 := ⟨F - 1, by omega⟩
  obtain ⟨q', s2, p1, p2, p3, p4, p5, p6⟩ := hpart s0 i0 (Nat.le_refl _) h0 H hZ
  obtain ⟨g1, g2, g3⟩ := hgd i0 h0
  have hz : sz s2 ≤ Z := by omega
  have hm40 : most ≤ 40 := by rw [hmost]; split <;> omega
  have e0 : f_Reader_readChain R (F' + 1) Z s0 (io g) (io a) = f_Reader_readChain_b60 R (F' + 1) Z (f_Reader_readChain_b20 R (F' + 1) Z F') s2 (io g) (io a) (io most) none (io 0) (io 0) q' := by
    by_cases hg0 : g = 0
    · rw [if_pos hg0] at hmost
      have h9 : ¬ 1 < 0 := by omega
      subst hg0
      simp (disch := omega) only [f_Reader_readChain, Option.bind_some, Nat.reduceEqDiff, Nat.add_zero, Nat.zero_add, Nat.reduceLT, Nat.reduceLeDiff, Nat.reduceAdd, Nat.reduceSub, Nat.reduceMul, Nat.reduceDiv, Nat.lt_irrefl, Nat.not_lt_zero, Nat.zero_le, Nat.one_ne_zero, Nat.succ_ne_zero,  lt_def, i32_lit, reduceIte, P_isIn_eq, M_isIn_eq, M_goes_eq, or_false, false_or, or_true, true_or, and_true, true_and, and_false, false_and, not_true, not_false_eq_true, eq_self, if_true, if_false, not_or, not_and, Nat.not_lt, Nat.not_le, io_eq, hmost]
      simp (disch := omega) only [b20_eq hg, io_lt, h9, Option.bind_some, Nat.reduceEqDiff, Nat.add_zero, Nat.zero_add, Nat.reduceLT, Nat.reduceLeDiff, Nat.reduceAdd, Nat.reduceSub, Nat.reduceMul, Nat.reduceDiv, Nat.lt_irrefl, Nat.not_lt_zero, Nat.zero_le, Nat.one_ne_zero, Nat.succ_ne_zero,  lt_def, i32_lit, reduceIte, P_isIn_eq, M_isIn_eq, M_goes_eq, or_false, false_or, or_true, true_or, and_true, true_and, and_false, false_and, not_true, not_false_eq_true, eq_self, if_true, if_false, not_or, not_and, Nat.not_lt, Nat.not_le, p1, hz]
    · rw [if_neg hg0] at hmost
      have h9 : ¬ 40 < 0 := by omega
      simp (disch := omega) only [f_Reader_readChain, Option.bind_some, Nat.reduceEqDiff, Nat.add_zero, Nat.zero_add, Nat.reduceLT, Nat.reduceLeDiff, Nat.reduceAdd, Nat.reduceSub, Nat.reduceMul, Nat.reduceDiv, Nat.lt_irrefl, Nat.not_lt_zero, Nat.zero_le, Nat.one_ne_zero, Nat.succ_ne_zero,  lt_def, i32_lit, reduceIte, P_isIn_eq, M_isIn_eq, M_goes_eq, or_false, false_or, or_true, true_or, and_true, true_and, and_false, false_and, not_true, not_false_eq_true, eq_self, if_true, if_false, not_or, not_and, Nat.not_lt, Nat.not_le, io_eq, hg0, hmost]
      simp (disch := omega) only [b20_eq hg, io_lt, h9, Option.bind_some, Nat.reduceEqDiff, Nat.add_zero, Nat.zero_add, Nat.reduceLT, Nat.reduceLeDiff, Nat.reduceAdd, Nat.reduceSub, Nat.reduceMul, Nat.reduceDiv, Nat.lt_irrefl, Nat.not_lt_zero, Nat.zero_le, Nat.one_ne_zero, Nat.succ_ne_zero,  lt_def, i32_lit, reduceIte, P_isIn_eq, M_isIn_eq, M_goes_eq, or_false, false_or, or_true, true_or, and_true, true_and, and_false, false_and, not_true, not_false_eq_true, eq_self, if_true, if_false, not_or, not_and, Nat.not_lt, Nat.not_le, p1, hz]
  rw [e0]
  unfold chain
  cases hr : (part i0).1 with
  | none =>
    have := p5 hr
    subst this
    refine ⟨none, s2, ?_, p2, p3, p4, fun _ => rfl, fun c h => by cases h⟩
    simp (disch := omega) only [f_Reader_readChain_b60, Option.bind_some, Nat.reduceEqDiff, Nat.add_zero, Nat.zero_add, Nat.reduceLT, Nat.reduceLeDiff, Nat.reduceAdd, Nat.reduceSub, Nat.reduceMul, Nat.reduceDiv, Nat.lt_irrefl, Nat.not_lt_zero, Nat.zero_le, Nat.one_ne_zero, Nat.succ_ne_zero,  lt_def, i32_lit, reduceIte, P_isIn_eq, M_isIn_eq, M_goes_eq, or_false, false_or, or_true, true_or, and_true, true_and, and_false, false_and, not_true, not_false_eq_true, eq_self, if_true, if_false, not_or, not_and, Nat.not_lt, Nat.not_le]
  | some c =>
    obtain ⟨q, rfl, p7⟩ := p6 c hr
    have gi := (g3 c hr).1
    have hne : ¬ some q = none := by simp
    obtain ⟨q'', s4, r1, r2⟩ := chn_RR (F := F' + 1) TT hg hbin TX hm40 hgd hpart hZ most F' c (part i0).2 0 s2 q (by omega) (by omega) gi g2 p2 p3 p4 p7
    refine ⟨q'', s4, ?_, r2⟩
    simp (disch := omega) only [f_Reader_readChain_b60, Option.bind_some, Nat.reduceEqDiff, Nat.add_zero, Nat.zero_add, Nat.reduceLT, Nat.reduceLeDiff, Nat.reduceAdd, Nat.reduceSub, Nat.reduceMul, Nat.reduceDiv, Nat.lt_irrefl, Nat.not_lt_zero, Nat.zero_le, Nat.one_ne_zero, Nat.succ_ne_zero,  lt_def, i32_lit, reduceIte, P_isIn_eq, M_isIn_eq, M_goes_eq, or_false, false_or, or_true, true_or, and_true, true_and, and_false, false_and, not_true, not_false_eq_true, eq_self, if_true, if_false, not_or, not_and, Nat.not_lt, Nat.not_le, hne]
    exact r1
end CHN
