/-! the reader's recursion -/
def rdC (F Z d g : Nat) (s : St) (a : Int32) : Option (Option Nat × St) := if g = 5 then f_RD F Z d 3 s a (io 0) else f_RD F Z d 0 s (io g) a
def rdQ (F Z d g : Nat) (s : St) (a : Int32) : Option (Option Nat × St) := if g = 6 then f_RD F Z d 1 s a (io 0) else f_RD F Z d 0 s (io g) a
theorem GD.tt {α : Type} {n i : Nat} {r : Option (List α) × Nat} {ok : List α → Nat → Prop} (h : GD n i r ok) : GD n i r (fun _ _ => True) := h.mono (fun _ _ _ => trivial)
theorem RR.sz {α : Type} {T : St → Nat → Nat → List α → Prop} {t : Nat → Nat} {n Z : Nat} {s s' : St} {i : Nat} {r : Option (List α) × Nat} {q' : Option Nat} (h : RR T t n s i r q' s') (hZ : sz s + (n - i) ≤ Z) (hi : i ≤ n) (hr : r.2 ≤ n) : sz s' ≤ Z := by
  have := h.2.2.1
  omega
theorem RDC {F Z n : Nat} (hF : 5000 ≤ F) {t : Nat → Nat} (T : TXT t n) : ∀ d g i a s, (g = 3 ∨ g = 4 ∨ g = 5) → i ≤ n → a ≤ i → RI t n s i → sz s + (n - i) ≤ Z → 4 * (n - i) + (6 - g) ≤ d → ∃ q' s', rdC F Z d g s (io a) = some (q', s') ∧ RR TC t n s i (pC t d g i) q' s' := by
  have hn := T.1
  intro d
  induction d with
  | zero => intro g i a s hg hi ha H hZ hd; omega
  | succ d ih =>
    intro g i a s hg hi ha H hZ hd
    rcases hg with rfl | rfl | rfl
    · show ∃ q' s', f_Reader_readChain (f_RD F Z d) F Z s (io 3) (io a) = some (q', s') ∧ RR TC t n s i (chain t (pC t d 4) (sgc 3) tkC 40 i) q' s'
      refine chain_RR hF TOK_C (by omega) (fun s q l r d c1 c2 sg hsg hn hl hr => ?_) T rfl hi (fun i hi => (pC_gd T d 4 i (by omega) hi).tt) (fun s i' h1 h2 H hZ => ?_) hZ H
      · exact Or.inr (Or.inr ⟨sg, l, r, c1, c2, Or.inr (of_decide_eq_true hsg), rfl, hn, hl, hr⟩)
      · exact ih 4 i' a s (by omega) h2 (by omega) H hZ (by omega)
    · show ∃ q' s', f_Reader_readChain (f_RD F Z d) F Z s (io 4) (io a) = some (q', s') ∧ RR TC t n s i (chain t (pC t d 5) (sgc 4) tkC 40 i) q' s'
      refine chain_RR hF TOK_C (by omega) (fun s q l r d c1 c2 sg hsg hn hl hr => ?_) T rfl hi (fun i hi => (pC_gd T d 5 i (by omega) hi).tt) (fun s i' h1 h2 H hZ => ?_) hZ H
      · exact Or.inr (Or.inr ⟨sg, l, r, c1, c2, Or.inl (of_decide_eq_true hsg), rfl, hn, hl, hr⟩)
      · exact ih 5 i' a s (by omega) h2 (by omega) H hZ (by omega)
    · show ∃ q' s', f_Reader_readTerm (f_RD F Z d) F Z s (io a) = some (q', s') ∧ RR TC t n s i (if t i = 33 then post (tkC 33) (pC t d 5 (i + 1)) else if t i = 40 then clo t (pC t d 3 (i + 1)) else pCmp t i) q' s'
      have ha40 : a ≤ 40 := by omega
      have hh := here_eq (F := F) T H hi
      have ht := tlt (i := i) T
      have e38 := H.1
      have H1 : RI t n (sI s 1538 (io (i + 1))) (i + 1) := H.at
      by_cases h1 : t i = 33
      · rw [if_pos h1]
        have i1 := T.in' h1
        obtain ⟨q', s1, c1, c2⟩ := ih 5 (i + 1) (a + 1) (sI s 1538 (io (i + 1))) (by omega) i1 (by omega) H1 (by show sz s + (n - (i + 1)) ≤ Z; omega) (by omega)
        obtain ⟨g1, g2, g3⟩ := pC_gd T d 5 (i + 1) (by omega) i1
        obtain ⟨q2, s2, b1, b2, b3⟩ := before_RR (F := F) (Z := Z) (k := 33) (s0 := s) (s := sI s 1538 (io (i + 1))) (x := tkC 33) (i := i) TOK_C (fun s q l d c hn hl => Or.inr (Or.inl ⟨l, c, rfl, hn, hl⟩)) g1 g2 rfl FnR.at (by show sz s + (n - i) ≤ Z; exact hZ) (fun c hc => (g3 c hc).1) c2
        refine ⟨q2, s2, ?_, b3⟩
        have hz1 : sz s1 ≤ Z := c2.sz (Z := Z) (by show sz s + (n - (i + 1)) ≤ Z; omega) i1 g2
        have c1' : f_RD F Z d 3 (sI s 1538 (io (i + 1))) (io (a + 1)) (io 0) = some (q', s1) := c1
        simp (disch := omega) only [f_Reader_readTerm, Option.bind_some, Nat.reduceEqDiff, Nat.add_zero, Nat.zero_add, Nat.reduceLT, Nat.reduceLeDiff, Nat.reduceAdd, Nat.reduceSub, Nat.reduceMul, Nat.reduceDiv, Nat.lt_irrefl, Nat.not_lt_zero, Nat.zero_le, Nat.one_ne_zero, Nat.succ_ne_zero,  lt_def, i32_lit, reduceIte, P_isIn_eq, M_isIn_eq, M_goes_eq, or_false, false_or, or_true, true_or, and_true, true_and, and_false, false_and, not_true, not_false_eq_true, eq_self, if_true, if_false, not_or, not_and, Nat.not_lt, Nat.not_le, io_le, ha40, hh, h1, e38, io_add, c1', hz1, b1, b2]
      · rw [if_neg h1]
        by_cases h2 : t i = 40
        · rw [if_pos h2]
          have i1 := T.in' h2
          obtain ⟨q', s1, c1, c2⟩ := ih 3 (i + 1) (a + 1) (sI s 1538 (io (i + 1))) (by omega) i1 (by omega) H1 (by show sz s + (n - (i + 1)) ≤ Z; omega) (by omega)
          obtain ⟨g1, g2, g3⟩ := pC_gd T d 3 (i + 1) (by omega) i1
          have hz1 : sz s1 ≤ Z := c2.sz (Z := Z) (by show sz s + (n - (i + 1)) ≤ Z; omega) i1 g2
          have c3 : RR TC t n s i (pC t d 3 (i + 1)) q' s1 := ⟨FnR.at.trans c2.1, c2.2.1, by have : sz s1 + (i + 1) ≤ sz s + (pC t d 3 (i + 1)).2 := c2.2.2.1; omega, c2.2.2.2.1, fun c hc => by
            obtain ⟨q, x1, x2⟩ := c2.2.2.2.2 c hc
            exact ⟨q, x1, x2.le (by omega)⟩⟩
          obtain ⟨q2, s2, b1, b2⟩ := closed_RR (F := F) TOK_C T g2 c3
          refine ⟨q2, s2, ?_, b2⟩
          have c1' : f_RD F Z d 0 (sI s 1538 (io (i + 1))) (io 3) (io (a + 1)) = some (q', s1) := c1
          simp (disch := omega) only [f_Reader_readTerm, Option.bind_some, Nat.reduceEqDiff, Nat.add_zero, Nat.zero_add, Nat.reduceLT, Nat.reduceLeDiff, Nat.reduceAdd, Nat.reduceSub, Nat.reduceMul, Nat.reduceDiv, Nat.lt_irrefl, Nat.not_lt_zero, Nat.zero_le, Nat.one_ne_zero, Nat.succ_ne_zero,  lt_def, i32_lit, reduceIte, P_isIn_eq, M_isIn_eq, M_goes_eq, or_false, false_or, or_true, true_or, and_true, true_and, and_false, false_and, not_true, not_false_eq_true, eq_self, if_true, if_false, not_or, not_and, Nat.not_lt, Nat.not_le, io_le, ha40, hh, h2, io_eq, e38, io_add, c1', hz1, b1]
        · rw [if_neg h2]
          obtain ⟨q', s1, c1, c2⟩ := cmp_RR hF T hi H hZ
          have hz1 : sz s1 ≤ Z := c2.sz hZ hi (cmp_gd T hi).2.1
          refine ⟨q', s1, ?_, c2⟩
          simp (disch := omega) only [f_Reader_readTerm, Option.bind_some, Nat.reduceEqDiff, Nat.add_zero, Nat.zero_add, Nat.reduceLT, Nat.reduceLeDiff, Nat.reduceAdd, Nat.reduceSub, Nat.reduceMul, Nat.reduceDiv, Nat.lt_irrefl, Nat.not_lt_zero, Nat.zero_le, Nat.one_ne_zero, Nat.succ_ne_zero,  lt_def, i32_lit, reduceIte, P_isIn_eq, M_isIn_eq, M_goes_eq, or_false, false_or, or_true, true_or, and_true, true_and, and_false, false_and, not_true, not_false_eq_true, eq_self, if_true, if_false, not_or, not_and, Nat.not_lt, Nat.not_le, io_le, ha40, hh, h1, h2, io_eq, c1, hz1]
theorem b55_RR {F Z n d i i0 a k f : Nat} (hF : 5000 ≤ F) {t : Nat → Nat} (T : TXT t n) {s0 s : St} {l3 : Option Nat} (hi : i ≤ n) (h0 : i0 + 2 ≤ i) (ha : a ≤ i0) (H : RI t n s i) (hf : FnR s0 s) (hs : sz s + i0 + 2 ≤ sz s0 + i) (hZ : sz s0 + (n - i0) ≤ Z) (hd : 4 * (n - i0) ≤ d + 9) (hk : agc k = true)
    (hfi : (k = 110 ∧ f = 0 ∧ l3 = none) ∨ (k ≠ 110 ∧ fdc f = true ∧ ∃ l', l3 = some l' ∧ nd s l' (io f) (io 0) none none)) :
    ∃ q' s', f_Reader_readAggregate_b55 (f_RD F Z d) F Z s (io a) (io k) l3 = some (q', s') ∧ RR TQ t n s0 i0 (pAg2 t d k f i) q' s' := by
  have hh := here_eq (F := F) T H hi
  have ht := tlt (i := i) T
  have e38 := H.1
  unfold pAg2
  by_cases h : t i = 58
  · rw [if_pos h]
    have i1 := T.in' h
    obtain ⟨q', s1, c1, c2⟩ := RDC (F := F) (Z := Z) hF T d 3 (i + 1) (a + 1) (sI s 1538 (io (i + 1))) (by omega) i1 (by omega) H.at (by show sz s + (n - (i + 1)) ≤ Z; omega) (by omega)
    obtain ⟨g1, g2, g3⟩ := pC_gd T d 3 (i + 1) (by omega) i1
    have c1' : f_RD F Z d 0 (sI s 1538 (io (i + 1))) (io 3) (io (a + 1)) = some (q', s1) := c1
    obtain ⟨d1, d2, d3, d4, d5⟩ := c2
    have d3' : sz s1 + (i + 1) ≤ sz s + (pC t d 3 (i + 1)).2 := d3
    have hz1 : sz s1 ≤ Z := by omega
    unfold ag2E
    cases hr : (pC t d 3 (i + 1)).1 with
    | none =>
      have := d4 hr
      subst this
      refine ⟨none, s1, ?_, hf.trans (FnR.at.trans d1), d2, by show sz s1 + i0 ≤ sz s0 + (pC t d 3 (i + 1)).2; omega, fun _ => rfl, fun c hc => by cases hc⟩
      simp (disch := omega) only [f_Reader_readAggregate_b55, Option.bind_some, Nat.reduceEqDiff, Nat.add_zero, Nat.zero_add, Nat.reduceLT, Nat.reduceLeDiff, Nat.reduceAdd, Nat.reduceSub, Nat.reduceMul, Nat.reduceDiv, Nat.lt_irrefl, Nat.not_lt_zero, Nat.zero_le, Nat.one_ne_zero, Nat.succ_ne_zero,  lt_def, i32_lit, reduceIte, P_isIn_eq, M_isIn_eq, M_goes_eq, or_false, false_or, or_true, true_or, and_true, true_and, and_false, false_and, not_true, not_false_eq_true, eq_self, if_true, if_false, not_or, not_and, Nat.not_lt, Nat.not_le, hh, h, e38, io_add, c1', hz1]
    | some c =>
      obtain ⟨q, rfl, d6⟩ := d5 c hr
      have gi := (g3 c hr).1
      have hz2 : sz s1 < Z := by omega
      have hne : ¬ some q = none := by simp
      obtain ⟨s2, b1, b2, b3, b4, b5⟩ := node_new (F := F) (s := s1) (k := io k) (n := io 0) (l := l3) (r := some q)
      have fr : FnR s0 s2 := (hf.trans (FnR.at.trans d1)).trans b2
      have H2 : RI t n s2 (pC t d 3 (i + 1)).2 := d2.fr b2 (by rw [b3]; exact d2.1)
      have hT : TQ s2 ((pC t d 3 (i + 1)).2 - i0) (sz s1) [(k, f, some c)] := by
        rw [show (pC t d 3 (i + 1)).2 - i0 = (pC t d 3 (i + 1)).2 - i0 - 1 + 1 by omega]
        exact Or.inr (Or.inr (Or.inr ⟨k, f, some c, l3, some q, rfl, hk, b5, hfi.imp id (fun ⟨x1, x2, l', x3, x4⟩ => ⟨x1, x2, l', x3, x4.nm ((FnR.at.trans d1).trans b2).nm⟩), Or.inr ⟨c, q, rfl, rfl, (TC.nm b2.nm _ _ _ d6).le (by omega)⟩⟩))
      have hR : RR TQ t n s0 i0 (some [(k, f, some c)], (pC t d 3 (i + 1)).2) (some (sz s1)) s2 := ⟨fr, H2, by show sz s2 + i0 ≤ sz s0 + (pC t d 3 (i + 1)).2; omega, (fun h => by cases h), fun c' hc' => by cases hc'; exact ⟨_, rfl, hT⟩⟩
      obtain ⟨q2, s3, e1, e2⟩ := closed_RR (F := F) TOK_Q T g2 hR
      refine ⟨q2, s3, ?_, e2⟩
      simp (disch := omega) only [f_Reader_readAggregate_b55, Option.bind_some, Nat.reduceEqDiff, Nat.add_zero, Nat.zero_add, Nat.reduceLT, Nat.reduceLeDiff, Nat.reduceAdd, Nat.reduceSub, Nat.reduceMul, Nat.reduceDiv, Nat.lt_irrefl, Nat.not_lt_zero, Nat.zero_le, Nat.one_ne_zero, Nat.succ_ne_zero,  lt_def, i32_lit, reduceIte, P_isIn_eq, M_isIn_eq, M_goes_eq, or_false, false_or, or_true, true_or, and_true, true_and, and_false, false_and, not_true, not_false_eq_true, eq_self, if_true, if_false, not_or, not_and, Nat.not_lt, Nat.not_le, hh, h, e38, io_add, c1', hz1, hne, hz2, z3_eq, node_dgo, Option.bind_some, b1, e1]
  · rw [if_neg h]
    have hz2 : sz s < Z := by omega
    obtain ⟨s2, b1, b2, b3, b4, b5⟩ := node_new (F := F) (s := s) (k := io k) (n := io 0) (l := l3) (r := none)
    have H2 : RI t n s2 i := H.fr b2 (by rw [b3]; exact H.1)
    have hT : TQ s2 (i - i0) (sz s) [(k, f, none)] := by
      rw [show i - i0 = i - i0 - 1 + 1 by omega]
      exact Or.inr (Or.inr (Or.inr ⟨k, f, none, l3, none, rfl, hk, b5, hfi.imp id (fun ⟨x1, x2, l', x3, x4⟩ => ⟨x1, x2, l', x3, x4.nm b2.nm⟩), Or.inl ⟨rfl, rfl⟩⟩))
    have hR : RR TQ t n s0 i0 (some [(k, f, none)], i) (some (sz s)) s2 := ⟨hf.trans b2, H2, by show sz s2 + i0 ≤ sz s0 + i; omega, (fun h => by cases h), fun c' hc' => by cases hc'; exact ⟨_, rfl, hT⟩⟩
    obtain ⟨q2, s3, e1, e2⟩ := closed_RR (F := F) TOK_Q T hi hR
    refine ⟨q2, s3, ?_, e2⟩
    simp (disch := omega) only [f_Reader_readAggregate_b55, Option.bind_some, Nat.reduceEqDiff, Nat.add_zero, Nat.zero_add, Nat.reduceLT, Nat.reduceLeDiff, Nat.reduceAdd, Nat.reduceSub, Nat.reduceMul, Nat.reduceDiv, Nat.lt_irrefl, Nat.not_lt_zero, Nat.zero_le, Nat.one_ne_zero, Nat.succ_ne_zero,  lt_def, i32_lit, reduceIte, P_isIn_eq, M_isIn_eq, M_goes_eq, or_false, false_or, or_true, true_or, and_true, true_and, and_false, false_and, not_true, not_false_eq_true, eq_self, if_true, if_false, not_or, not_and, Nat.not_lt, Nat.not_le, hh, h, io_eq, hz2, z3_eq, node_dgo, Option.bind_some, b1, e1]
theorem agg_RR {F Z n d i a : Nat} (hF : 5000 ≤ F) {t : Nat → Nat} (T : TXT t n) {s : St} (hk : agc (t i) = true) (ha : a ≤ i) (H : RI t n s i) (hZ : sz s + (n - i) ≤ Z) (hd : 4 * (n - i) ≤ d + 9) :
    ∃ q' s', f_Reader_readAggregate (f_RD F Z d) F Z s (io a) = some (q', s') ∧ RR TQ t n s i (pAg t d i) q' s' := by
  have i1 := T.bin hk
  have hh := here_eq (F := F) T H (by omega)
  have ht := tlt (i := i) T
  have e38 := H.1
  have H1 : RI t n (sI s 1538 (io (i + 1))) (i + 1) := H.at
  have hh1 := here_eq (F := F) T H1 i1
  have ht1 := tlt (i := i + 1) T
  unfold pAg
  by_cases h : t (i + 1) = 40
  · have i2 := T.in' h
    rw [if_pos h]
    have H2 : RI t n (sI (sI s 1538 (io (i + 1))) 1538 (io (i + 2))) (i + 2) := H1.at
    by_cases h2 : t i = 110
    · rw [if_pos h2]
      obtain ⟨q', s', c1, c2⟩ := b55_RR (Z := Z) (d := d) (k := t i) (f := 0) (l3 := none) (i0 := i) (a := a) hF T i2 (by omega) ha H2 (FnR.at.trans FnR.at) (by show sz s + i + 2 ≤ sz s + (i + 2); omega) hZ hd hk (Or.inl ⟨h2, rfl, rfl⟩)
      refine ⟨q', s', ?_, c2⟩
      rw [h2] at c1
      simp (disch := omega) only [f_Reader_readAggregate, Option.bind_some, Nat.reduceEqDiff, Nat.add_zero, Nat.zero_add, Nat.reduceLT, Nat.reduceLeDiff, Nat.reduceAdd, Nat.reduceSub, Nat.reduceMul, Nat.reduceDiv, Nat.lt_irrefl, Nat.not_lt_zero, Nat.zero_le, Nat.one_ne_zero, Nat.succ_ne_zero,  lt_def, i32_lit, reduceIte, P_isIn_eq, M_isIn_eq, M_goes_eq, or_false, false_or, or_true, true_or, and_true, true_and, and_false, false_and, not_true, not_false_eq_true, eq_self, if_true, if_false, not_or, not_and, Nat.not_lt, Nat.not_le, hh, hh1, h, h2, e38, io_add, gI_sI] at c1 ⊢
      exact c1
    · rw [if_neg h2]
      by_cases h3 : fdc (t (i + 2)) = true
      · rw [if_pos h3]
        obtain ⟨s2, b1, b2, b3, b4, b5⟩ := readField_t (F := F) (Z := Z) T H2 h3 (by show sz s < Z; omega)
        have hz : sz s2 ≤ Z := by rw [b4]; show sz s + 1 ≤ Z; omega
        obtain ⟨q', s', c1, c2⟩ := b55_RR (Z := Z) (d := d) (k := t i) (f := t (i + 2)) (l3 := some (sz s)) (s0 := s) (i0 := i) (a := a) hF T (T.bin h3) (by omega) ha b3 ((FnR.at.trans FnR.at).trans b2) (by rw [b4]; show sz s + 1 + i + 2 ≤ sz s + (i + 2 + 1); omega) hZ hd hk (Or.inr ⟨h2, h3, sz s, rfl, b5⟩)
        refine ⟨q', s', ?_, c2⟩
        have b1' : f_Reader_readField F Z (sI (sI s 1538 (io (i + 1))) 1538 (io (i + 2))) = some (some (sz s), s2) := b1
        have hne : ¬ some (sz s) = none := by simp
        simp (disch := omega) only [f_Reader_readAggregate, Option.bind_some, Nat.reduceEqDiff, Nat.add_zero, Nat.zero_add, Nat.reduceLT, Nat.reduceLeDiff, Nat.reduceAdd, Nat.reduceSub, Nat.reduceMul, Nat.reduceDiv, Nat.lt_irrefl, Nat.not_lt_zero, Nat.zero_le, Nat.one_ne_zero, Nat.succ_ne_zero,  lt_def, i32_lit, reduceIte, P_isIn_eq, M_isIn_eq, M_goes_eq, or_false, false_or, or_true, true_or, and_true, true_and, and_false, false_and, not_true, not_false_eq_true, eq_self, if_true, if_false, not_or, not_and, Nat.not_lt, Nat.not_le, hh, hh1, h, h2, io_eq, e38, io_add, gI_sI, b1', hz, hne]
        exact c1
      · rw [if_neg h3]
        have b1 := readField_f (F := F) (Z := Z) T i2 H2 h3
        have hz : sz (sI (sI s 1538 (io (i + 1))) 1538 (io (i + 2))) ≤ Z := by show sz s ≤ Z; omega
        refine ⟨none, _, ?_, FnR.at.trans FnR.at, H2, by show sz s + i ≤ sz s + (i + 2); omega, fun _ => rfl, fun c hc => by cases hc⟩
        simp (disch := omega) only [f_Reader_readAggregate, Option.bind_some, Nat.reduceEqDiff, Nat.add_zero, Nat.zero_add, Nat.reduceLT, Nat.reduceLeDiff, Nat.reduceAdd, Nat.reduceSub, Nat.reduceMul, Nat.reduceDiv, Nat.lt_irrefl, Nat.not_lt_zero, Nat.zero_le, Nat.one_ne_zero, Nat.succ_ne_zero,  lt_def, i32_lit, reduceIte, P_isIn_eq, M_isIn_eq, M_goes_eq, or_false, false_or, or_true, true_or, and_true, true_and, and_false, false_and, not_true, not_false_eq_true, eq_self, if_true, if_false, not_or, not_and, Nat.not_lt, Nat.not_le, hh, hh1, h, h2, io_eq, e38, io_add, gI_sI, b1, hz]
  · rw [if_neg h]
    refine ⟨none, sI s 1538 (io (i + 1)), ?_, FnR.at, H1, by show sz s + i ≤ sz s + (i + 1); omega, fun _ => rfl, fun c hc => by cases hc⟩
    simp (disch := omega) only [f_Reader_readAggregate, Option.bind_some, Nat.reduceEqDiff, Nat.add_zero, Nat.zero_add, Nat.reduceLT, Nat.reduceLeDiff, Nat.reduceAdd, Nat.reduceSub, Nat.reduceMul, Nat.reduceDiv, Nat.lt_irrefl, Nat.not_lt_zero, Nat.zero_le, Nat.one_ne_zero, Nat.succ_ne_zero,  lt_def, i32_lit, reduceIte, P_isIn_eq, M_isIn_eq, M_goes_eq, or_false, false_or, or_true, true_or, and_true, true_and, and_false, false_and, not_true, not_false_eq_true, eq_self, if_true, if_false, not_or, not_and, Nat.not_lt, Nat.not_le, hh, hh1, h, io_eq, e38, io_add]
theorem RDQ {F Z n : Nat} (hF : 5000 ≤ F) {t : Nat → Nat} (T : TXT t n) : ∀ d g i a s, (g = 0 ∨ g = 1 ∨ g = 2 ∨ g = 6) → i ≤ n → a ≤ i → RI t n s i → sz s + (n - i) ≤ Z → 4 * (n - i) + (if g = 6 then 1 else 4 - g) ≤ d → ∃ q' s', rdQ F Z d g s (io a) = some (q', s') ∧ RR TQ t n s i (pQ t d g i) q' s' := by
  have hn := T.1
  intro d
  induction d with
  | zero => intro g i a s hg hi ha H hZ hd; exfalso; rcases hg with rfl | rfl | rfl | rfl <;> simp at hd
  | succ d ih =>
    intro g i a s hg hi ha H hZ hd
    rcases hg with rfl | rfl | rfl | rfl
    · have hd' : 4 * (n - i) + 4 ≤ d + 1 := hd
      show ∃ q' s', f_Reader_readChain (f_RD F Z d) F Z s (io 0) (io a) = some (q', s') ∧ RR TQ t n s i (chain t (pQ t d 1) (sgc 0) tkQ 1 i) q' s'
      refine chain_RR hF TOK_Q (by omega) (fun s q l r d c1 c2 sg hsg hn hl hr => ?_) T rfl hi (fun i hi => (pQ_gd T d 1 i (by omega) hi).tt) (fun s i' h1 h2 H hZ => ?_) hZ H
      · exact Or.inr (Or.inr (Or.inl ⟨sg, l, r, c1, c2, qop_of hsg (by omega), rfl, hn, hl, hr⟩))
      · exact ih 1 i' a s (by omega) h2 (by omega) H hZ (by show 4 * (n - i') + 3 ≤ d; omega)
    · have hd' : 4 * (n - i) + 3 ≤ d + 1 := hd
      show ∃ q' s', f_Reader_readChain (f_RD F Z d) F Z s (io 1) (io a) = some (q', s') ∧ RR TQ t n s i (chain t (pQ t d 2) (sgc 1) tkQ 40 i) q' s'
      refine chain_RR hF TOK_Q (by omega) (fun s q l r d c1 c2 sg hsg hn hl hr => ?_) T rfl hi (fun i hi => (pQ_gd T d 2 i (by omega) hi).tt) (fun s i' h1 h2 H hZ => ?_) hZ H
      · exact Or.inr (Or.inr (Or.inl ⟨sg, l, r, c1, c2, qop_of hsg (by omega), rfl, hn, hl, hr⟩))
      · exact ih 2 i' a s (by omega) h2 (by omega) H hZ (by show 4 * (n - i') + 2 ≤ d; omega)
    · have hd' : 4 * (n - i) + 2 ≤ d + 1 := hd
      show ∃ q' s', f_Reader_readChain (f_RD F Z d) F Z s (io 2) (io a) = some (q', s') ∧ RR TQ t n s i (chain t (pQ t d 6) (sgc 2) tkQ 40 i) q' s'
      refine chain_RR hF TOK_Q (by omega) (fun s q l r d c1 c2 sg hsg hn hl hr => ?_) T rfl hi (fun i hi => (pQ_gd T d 6 i (by omega) hi).tt) (fun s i' h1 h2 H hZ => ?_) hZ H
      · exact Or.inr (Or.inr (Or.inl ⟨sg, l, r, c1, c2, qop_of hsg (by omega), rfl, hn, hl, hr⟩))
      · exact ih 6 i' a s (by omega) h2 (by omega) H hZ (by show 4 * (n - i') + 1 ≤ d; omega)
    · have hd' : 4 * (n - i) + 1 ≤ d + 1 := hd
      show ∃ q' s', f_Reader_readUnit (f_RD F Z d) F Z s (io a) = some (q', s') ∧ RR TQ t n s i (if t i = 45 then post (tkQ 126) (pQ t d 6 (i + 1)) else if t i = 40 then clo t (pQ t d 0 (i + 1)) else if agc (t i) = true then pAg t (d - 1) i else numE (pNum t i)) q' s'
      have ha40 : a ≤ 40 := by omega
      have hh := here_eq (F := F) T H hi
      have ht := tlt (i := i) T
      have e38 := H.1
      have H1 : RI t n (sI s 1538 (io (i + 1))) (i + 1) := H.at
      have hga := isAgg_eq (F := F) (s := s) ht
      by_cases h1 : t i = 45
      · rw [if_pos h1]
        have i1 := T.in' h1
        obtain ⟨q', s1, c1, c2⟩ := ih 6 (i + 1) (a + 1) (sI s 1538 (io (i + 1))) (by omega) i1 (by omega) H1 (by show sz s + (n - (i + 1)) ≤ Z; omega) (by show 4 * (n - (i + 1)) + 1 ≤ d; omega)
        obtain ⟨g1, g2, g3⟩ := pQ_gd T d 6 (i + 1) (by omega) i1
        obtain ⟨q2, s2, b1, b2, b3⟩ := before_RR (F := F) (Z := Z) (k := 126) (s0 := s) (s := sI s 1538 (io (i + 1))) (x := tkQ 126) (i := i) TOK_Q (fun s q l d c hn hl => Or.inr (Or.inl ⟨l, c, rfl, hn, hl⟩)) g1 g2 rfl FnR.at (by show sz s + (n - i) ≤ Z; exact hZ) (fun c hc => (g3 c hc).1) c2
        refine ⟨q2, s2, ?_, b3⟩
        have hz1 : sz s1 ≤ Z := c2.sz (Z := Z) (by show sz s + (n - (i + 1)) ≤ Z; omega) i1 g2
        have c1' : f_RD F Z d 1 (sI s 1538 (io (i + 1))) (io (a + 1)) (io 0) = some (q', s1) := c1
        simp (disch := omega) only [f_Reader_readUnit, Option.bind_some, Nat.reduceEqDiff, Nat.add_zero, Nat.zero_add, Nat.reduceLT, Nat.reduceLeDiff, Nat.reduceAdd, Nat.reduceSub, Nat.reduceMul, Nat.reduceDiv, Nat.lt_irrefl, Nat.not_lt_zero, Nat.zero_le, Nat.one_ne_zero, Nat.succ_ne_zero,  lt_def, i32_lit, reduceIte, P_isIn_eq, M_isIn_eq, M_goes_eq, or_false, false_or, or_true, true_or, and_true, true_and, and_false, false_and, not_true, not_false_eq_true, eq_self, if_true, if_false, not_or, not_and, Nat.not_lt, Nat.not_le, io_le, ha40, hh, h1, e38, io_add, c1', hz1, b1, b2]
      · rw [if_neg h1]
        by_cases h2 : t i = 40
        · rw [if_pos h2]
          have i1 := T.in' h2
          obtain ⟨q', s1, c1, c2⟩ := ih 0 (i + 1) (a + 1) (sI s 1538 (io (i + 1))) (by omega) i1 (by omega) H1 (by show sz s + (n - (i + 1)) ≤ Z; omega) (by show 4 * (n - (i + 1)) + 4 ≤ d; omega)
          obtain ⟨g1, g2, g3⟩ := pQ_gd T d 0 (i + 1) (by omega) i1
          have hz1 : sz s1 ≤ Z := c2.sz (Z := Z) (by show sz s + (n - (i + 1)) ≤ Z; omega) i1 g2
          have c3 : RR TQ t n s i (pQ t d 0 (i + 1)) q' s1 := ⟨FnR.at.trans c2.1, c2.2.1, by have : sz s1 + (i + 1) ≤ sz s + (pQ t d 0 (i + 1)).2 := c2.2.2.1; omega, c2.2.2.2.1, fun c hc => by
            obtain ⟨q, x1, x2⟩ := c2.2.2.2.2 c hc
            exact ⟨q, x1, x2.le (by omega)⟩⟩
          obtain ⟨q2, s2, b1, b2⟩ := closed_RR (F := F) TOK_Q T g2 c3
          refine ⟨q2, s2, ?_, b2⟩
          have c1' : f_RD F Z d 0 (sI s 1538 (io (i + 1))) (io 0) (io (a + 1)) = some (q', s1) := c1
          simp (disch := omega) only [f_Reader_readUnit, Option.bind_some, Nat.reduceEqDiff, Nat.add_zero, Nat.zero_add, Nat.reduceLT, Nat.reduceLeDiff, Nat.reduceAdd, Nat.reduceSub, Nat.reduceMul, Nat.reduceDiv, Nat.lt_irrefl, Nat.not_lt_zero, Nat.zero_le, Nat.one_ne_zero, Nat.succ_ne_zero,  lt_def, i32_lit, reduceIte, P_isIn_eq, M_isIn_eq, M_goes_eq, or_false, false_or, or_true, true_or, and_true, true_and, and_false, false_and, not_true, not_false_eq_true, eq_self, if_true, if_false, not_or, not_and, Nat.not_lt, Nat.not_le, io_le, ha40, hh, h2, io_eq, e38, io_add, c1', hz1, b1]
        · rw [if_neg h2]
          by_cases h3 : agc (t i) = true
          · rw [if_pos h3] at hga ⊢
            obtain ⟨d, rfl⟩ : ∃ d', d = d' + 1 := ⟨d - 1, by have := T.bin h3; omega⟩
            obtain ⟨q', s1, c1, c2⟩ := agg_RR (F := F) (Z := Z) (d := d) hF T h3 ha H hZ (by omega)
            have hz1 : sz s1 ≤ Z := c2.sz hZ hi (ag_gd T h3).2.1
            have c1' : f_RD F Z (d + 1) 2 s (io a) (io 0) = some (q', s1) := c1
            refine ⟨q', s1, ?_, c2⟩
            simp (disch := omega) only [f_Reader_readUnit, Option.bind_some, Nat.reduceEqDiff, Nat.add_zero, Nat.zero_add, Nat.reduceLT, Nat.reduceLeDiff, Nat.reduceAdd, Nat.reduceSub, Nat.reduceMul, Nat.reduceDiv, Nat.lt_irrefl, Nat.not_lt_zero, Nat.zero_le, Nat.one_ne_zero, Nat.succ_ne_zero,  lt_def, i32_lit, reduceIte, P_isIn_eq, M_isIn_eq, M_goes_eq, or_false, false_or, or_true, true_or, and_true, true_and, and_false, false_and, not_true, not_false_eq_true, eq_self, if_true, if_false, not_or, not_and, Nat.not_lt, Nat.not_le, io_le, ha40, hh, h1, h2, io_eq, hga, c1', hz1]
          · rw [if_neg h3] at hga ⊢
            obtain ⟨q', s1, c1, c2, c3, c4⟩ := readNumber_eq hF T hi H hZ
            obtain ⟨g1, g2, g3⟩ := num_gd T hi
            unfold numE
            rcases c4 with ⟨x1, x2, x3⟩ | ⟨v, x1, x2, x3, x4, x5⟩
            · have hz1 : sz s1 ≤ Z := by omega
              rw [x1]
              refine ⟨q', s1, ?_, c2, c3, by show sz s1 + i ≤ sz s + (pNum t i).2; omega, fun _ => x2, fun c hc => by cases hc⟩
              simp (disch := omega) only [f_Reader_readUnit, Option.bind_some, Nat.reduceEqDiff, Nat.add_zero, Nat.zero_add, Nat.reduceLT, Nat.reduceLeDiff, Nat.reduceAdd, Nat.reduceSub, Nat.reduceMul, Nat.reduceDiv, Nat.lt_irrefl, Nat.not_lt_zero, Nat.zero_le, Nat.one_ne_zero, Nat.succ_ne_zero,  lt_def, i32_lit, reduceIte, P_isIn_eq, M_isIn_eq, M_goes_eq, or_false, false_or, or_true, true_or, and_true, true_and, and_false, false_and, not_true, not_false_eq_true, eq_self, if_true, if_false, not_or, not_and, Nat.not_lt, Nat.not_le, io_le, ha40, hh, h1, h2, io_eq, hga, c1, hz1]
            · have := (g3 v x1).1
              have hz1 : sz s1 ≤ Z := by omega
              rw [x1]
              refine ⟨q', s1, ?_, c2, c3, by show sz s1 + i ≤ sz s + (pNum t i).2; omega, (fun h => by cases h), fun c hc => ?_⟩
              · simp (disch := omega) only [f_Reader_readUnit, Option.bind_some, Nat.reduceEqDiff, Nat.add_zero, Nat.zero_add, Nat.reduceLT, Nat.reduceLeDiff, Nat.reduceAdd, Nat.reduceSub, Nat.reduceMul, Nat.reduceDiv, Nat.lt_irrefl, Nat.not_lt_zero, Nat.zero_le, Nat.one_ne_zero, Nat.succ_ne_zero,  lt_def, i32_lit, reduceIte, P_isIn_eq, M_isIn_eq, M_goes_eq, or_false, false_or, or_true, true_or, and_true, true_and, and_false, false_and, not_true, not_false_eq_true, eq_self, if_true, if_false, not_or, not_and, Nat.not_lt, Nat.not_le, io_le, ha40, hh, h1, h2, io_eq, hga, c1, hz1]
              · cases hc
                refine ⟨sz s, x2, ?_⟩
                show TQ s1 ((pNum t i).2 - i) (sz s) [(35, v, none)]
                rw [show (pNum t i).2 - i = (pNum t i).2 - i - 1 + 1 by omega]
                exact Or.inl ⟨v, rfl, x4, x5⟩
/-! a text is read -/
def perr (t : Nat → Nat) : Nat := (pQ t 200 0 0).2
def ques (t : Nat → Nat) (n : Nat) : Option (List QT) := if n ≤ perr t then (pQ t 200 0 0).1 else none
/-- all but the reader's two numbers and new cells is as it was -/
def Fw (s s' : St) : Prop := (∀ k, k ≠ 1537 → k ≠ 1538 → gI s' k = gI s k) ∧ gA s' = gA s ∧ gL s' = gL s ∧ gJ s' = gJ s ∧ gQ s' = gQ s ∧ sz s ≤ sz s' ∧ ∀ q, q < sz s → gD s' q = gD s q
theorem perr_le {t : Nat → Nat} {n : Nat} (T : TXT t n) : perr t ≤ n := (pQ_gd T 200 0 0 (Or.inl rfl) (Nat.zero_le _)).2.1
theorem ques_ok {t : Nat → Nat} {n : Nat} {c : List QT} (T : TXT t n) (h : ques t n = some c) : okQ c ∧ c.length ≤ n ∧ (pQ t 200 0 0).1 = some c ∧ perr t = n ∧ 0 < n := by
  unfold ques at h
  by_cases h1 : n ≤ perr t
  · rw [if_pos h1] at h
    have g := pQ_gd T 200 0 0 (Or.inl rfl) (Nat.zero_le _)
    have g3 := g.2.2 c h
    have e : perr t = n := Nat.le_antisymm (perr_le T) h1
    unfold perr at e
    refine ⟨g3.2.2.1, by have := g3.2.1; omega, h, e, by have := g3.1; omega⟩
  · rw [if_neg h1] at h; cases h
theorem read_eq {F Z n : Nat} (hF : 5000 ≤ F) {t : Nat → Nat} {s : St} (T : TXT t n) (hx : ∀ k, k < n → gA s 1 k = io (t k)) (hZ : sz s + n ≤ Z) : ∃ q' s', f_Reader_read F Z s (io n) = some (q', s') ∧ Fw s s' ∧ gI s' 1538 = io (perr t) ∧ sz s' ≤ sz s + n ∧ (ques t n = none → q' = none) ∧ ∀ c, ques t n = some c → ∃ q, q' = some q ∧ TQ s' n q c := by
  have hn := T.1
  have H : RI t n (sI (sI (sR s 1536 (some 1)) 1537 (io n)) 1538 (io 0)) 0 := ⟨rfl, rfl, rfl, hx⟩
  obtain ⟨q', s', c1, c2, c3, c4, c5, c6⟩ := RDQ (F := F) (Z := Z) hF T 200 0 0 0 _ (Or.inl rfl) (Nat.zero_le _) (Nat.le_refl _) H (by show sz s + (n - 0) ≤ Z; omega) (by show 4 * (n - 0) + 4 ≤ 200; omega)
  have c1' : f_RD F Z 200 0 (sI (sI (sR s 1536 (some 1)) 1537 (io n)) 1538 (io 0)) (io 0) (io 0) = some (q', s') := c1
  have c4' : sz s' + 0 ≤ sz s + perr t := c4
  have hp := perr_le T
  have hz : sz s' ≤ Z := by omega
  have e7 : gI s' 1537 = io n := c3.2.1
  have e8 : gI s' 1538 = io (perr t) := c3.1
  have fv : Fw s s' := ⟨fun k h1 h2 => by rw [c2.1 k h2, gI_sI, if_neg h2, gI_sI, if_neg h1]; rfl, c2.2.1, c2.2.2.1, c2.2.2.2.1, c2.2.2.2.2.1, c2.2.2.2.2.2.2.1, c2.2.2.2.2.2.2.2⟩
  unfold ques
  by_cases h : n ≤ perr t
  · rw [if_pos h]
    refine ⟨q', s', ?_, fv, e8, by omega, c5, fun c hc => ?_⟩
    · simp (disch := omega) only [f_Reader_read, f_Reader_readChain_t, Option.bind_some, Nat.reduceEqDiff, Nat.add_zero, Nat.zero_add, Nat.reduceLT, Nat.reduceLeDiff, Nat.reduceAdd, Nat.reduceSub, Nat.reduceMul, Nat.reduceDiv, Nat.lt_irrefl, Nat.not_lt_zero, Nat.zero_le, Nat.one_ne_zero, Nat.succ_ne_zero,  lt_def, i32_lit, reduceIte, P_isIn_eq, M_isIn_eq, M_goes_eq, or_false, false_or, or_true, true_or, and_true, true_and, and_false, false_and, not_true, not_false_eq_true, eq_self, if_true, if_false, not_or, not_and, Nat.not_lt, Nat.not_le, c1', hz, e7, e8, io_le, h]
    · obtain ⟨q, x1, x2⟩ := c6 c hc
      exact ⟨q, x1, x2.le (by show perr t - 0 ≤ n; omega)⟩
  · rw [if_neg h]
    refine ⟨none, s', ?_, fv, e8, by omega, fun _ => rfl, fun c hc => by cases hc⟩
    simp (disch := omega) only [f_Reader_read, f_Reader_readChain_t, Option.bind_some, Nat.reduceEqDiff, Nat.add_zero, Nat.zero_add, Nat.reduceLT, Nat.reduceLeDiff, Nat.reduceAdd, Nat.reduceSub, Nat.reduceMul, Nat.reduceDiv, Nat.lt_irrefl, Nat.not_lt_zero, Nat.zero_le, Nat.one_ne_zero, Nat.succ_ne_zero,  lt_def, i32_lit, reduceIte, P_isIn_eq, M_isIn_eq, M_goes_eq, or_false, false_or, or_true, true_or, and_true, true_and, and_false, false_and, not_true, not_false_eq_true, eq_self, if_true, if_false, not_or, not_and, Nat.not_lt, Nat.not_le, c1', hz, e7, e8, io_le, h]
