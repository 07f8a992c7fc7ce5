/-! what a reading leaves: nodes in the heap -/
def NM (s s' : St) : Prop := sz s ≤ sz s' ∧ ∀ q o, q < sz s → gD s q = some (.inl (3, o)) → gD s' q = some (.inl (3, o))
theorem NM.rf {s : St} : NM s s := ⟨Nat.le_refl _, fun _ _ _ h => h⟩
theorem NM.trans {s s1 s2 : St} (h : NM s s1) (h2 : NM s1 s2) : NM s s2 := ⟨Nat.le_trans h.1 h2.1, fun q o hq hd => h2.2 q o (Nat.lt_of_lt_of_le hq h.1) (h.2 q o hq hd)⟩
def nd (s : St) (q : Nat) (k n : Int32) (l r : Option Nat) : Prop := q < sz s ∧ ∃ o, gD s q = some (.inl (3, o)) ∧ o.1 0 = k ∧ o.1 1 = n ∧ o.2.1 2 = l ∧ o.2.1 3 = r
theorem nd.nm {s s' : St} {q : Nat} {k n : Int32} {l r : Option Nat} (h : nd s q k n l r) (f : NM s s') : nd s' q k n l r := by
  obtain ⟨h1, o, h2, h3⟩ := h
  exact ⟨Nat.lt_of_lt_of_le h1 f.1, o, f.2 q o h1 h2, h3⟩
def TC (s : St) : Nat → Nat → List CT → Prop
  | 0, _, _ => False
  | d + 1, q, c => (∃ sg f v b l r, c = [(sg, f, v, b)] ∧ 2 ≤ d ∧ cmc sg = true ∧ fdc f = true ∧ v ≤ 9999 ∧ nd s q (io sg) (io 0) (some l) (some r) ∧ nd s l (io f) (io 0) none none ∧ ((b = 0 ∧ nd s r (io 35) (io v) none none) ∨ (b = 1 ∧ ∃ r2, nd s r (io 126) (io 0) (some r2) none ∧ nd s r2 (io 35) (io v) none none)))
    ∨ (∃ l c1, c = c1 ++ [tkC 33] ∧ nd s q (io 33) (io 0) (some l) none ∧ TC s d l c1)
    ∨ (∃ sg l r c1 c2, (sg = 38 ∨ sg = 124) ∧ c = c1 ++ c2 ++ [tkC sg] ∧ nd s q (io sg) (io 0) (some l) (some r) ∧ TC s d l c1 ∧ TC s d r c2)
def TQ (s : St) : Nat → Nat → List QT → Prop
  | 0, _, _ => False
  | d + 1, q, c => (∃ v, c = [(35, v, none)] ∧ v ≤ 9999 ∧ nd s q (io 35) (io v) none none)
    ∨ (∃ l c1, c = c1 ++ [tkQ 126] ∧ nd s q (io 126) (io 0) (some l) none ∧ TQ s d l c1)
    ∨ (∃ sg l r c1 c2, qop sg ∧ c = c1 ++ c2 ++ [tkQ sg] ∧ nd s q (io sg) (io 0) (some l) (some r) ∧ TQ s d l c1 ∧ TQ s d r c2)
    ∨ (∃ k f ch l r, c = [(k, f, ch)] ∧ agc k = true ∧ nd s q (io k) (io 0) l r ∧ ((k = 110 ∧ f = 0 ∧ l = none) ∨ (k ≠ 110 ∧ fdc f = true ∧ ∃ l', l = some l' ∧ nd s l' (io f) (io 0) none none)) ∧ ((ch = none ∧ r = none) ∨ (∃ cc r', ch = some cc ∧ r = some r' ∧ TC s d r' cc)))
theorem TC.nm {s s' : St} (f : NM s s') : ∀ d q c, TC s d q c → TC s' d q c := by
  intro d
  induction d with
  | zero => intro q c h; exact h
  | succ d ih =>
    intro q c h
    rcases h with ⟨sg, fi, v, b, l, r, h1, h2, h3, h4, h5, h6, h7, h8⟩ | ⟨l, c1, h1, h2, h3⟩ | ⟨sg, l, r, c1, c2, h1, h2, h3, h4, h5⟩
    · exact Or.inl ⟨sg, fi, v, b, l, r, h1, h2, h3, h4, h5, h6.nm f, h7.nm f, h8.imp (fun h => ⟨h.1, h.2.nm f⟩) (fun ⟨hb, r2, ha, hc⟩ => ⟨hb, r2, ha.nm f, hc.nm f⟩)⟩
    · exact Or.inr (Or.inl ⟨l, c1, h1, h2.nm f, ih _ _ h3⟩)
    · exact Or.inr (Or.inr ⟨sg, l, r, c1, c2, h1, h2, h3.nm f, ih _ _ h4, ih _ _ h5⟩)
theorem TQ.nm {s s' : St} (f : NM s s') : ∀ d q c, TQ s d q c → TQ s' d q c := by
  intro d
  induction d with
  | zero => intro q c h; exact h
  | succ d ih =>
    intro q c h
    rcases h with ⟨v, h1, h2, h3⟩ | ⟨l, c1, h1, h2, h3⟩ | ⟨sg, l, r, c1, c2, h1, h2, h3, h4, h5⟩ | ⟨k, fi, ch, l, r, h1, h2, h3, h4, h5⟩
    · exact Or.inl ⟨v, h1, h2, h3.nm f⟩
    · exact Or.inr (Or.inl ⟨l, c1, h1, h2.nm f, ih _ _ h3⟩)
    · exact Or.inr (Or.inr (Or.inl ⟨sg, l, r, c1, c2, h1, h2, h3.nm f, ih _ _ h4, ih _ _ h5⟩))
    · exact Or.inr (Or.inr (Or.inr ⟨k, fi, ch, l, r, h1, h2, h3.nm f, h4.imp id (fun ⟨ha, hb, l', hc, hd⟩ => ⟨ha, hb, l', hc, hd.nm f⟩), h5.imp id (fun ⟨cc, r', ha, hb, hc⟩ => ⟨cc, r', ha, hb, TC.nm f _ _ _ hc⟩)⟩))
theorem TC.up {s : St} : ∀ d q c, TC s d q c → TC s (d + 1) q c := by
  intro d
  induction d with
  | zero => intro q c h; exact h.elim
  | succ d ih =>
    intro q c h
    rcases h with ⟨sg, fi, v, b, l, r, h1, h2, h3⟩ | ⟨l, c1, h1, h2, h3⟩ | ⟨sg, l, r, c1, c2, h1, h2, h3, h4, h5⟩
    · exact Or.inl ⟨sg, fi, v, b, l, r, h1, by omega, h3⟩
    · exact Or.inr (Or.inl ⟨l, c1, h1, h2, ih _ _ h3⟩)
    · exact Or.inr (Or.inr ⟨sg, l, r, c1, c2, h1, h2, h3, ih _ _ h4, ih _ _ h5⟩)
theorem TC.le {s : St} {d d' q : Nat} {c : List CT} (h : TC s d q c) (hd : d ≤ d') : TC s d' q c := by
  induction hd with
  | refl => exact h
  | step _ ih => exact TC.up _ _ _ ih
theorem TQ.up {s : St} : ∀ d q c, TQ s d q c → TQ s (d + 1) q c := by
  intro d
  induction d with
  | zero => intro q c h; exact h.elim
  | succ d ih =>
    intro q c h
    rcases h with h1 | ⟨l, c1, h1, h2, h3⟩ | ⟨sg, l, r, c1, c2, h1, h2, h3, h4, h5⟩ | ⟨k, fi, ch, l, r, h1, h2, h3, h4, h5⟩
    · exact Or.inl h1
    · exact Or.inr (Or.inl ⟨l, c1, h1, h2, ih _ _ h3⟩)
    · exact Or.inr (Or.inr (Or.inl ⟨sg, l, r, c1, c2, h1, h2, h3, ih _ _ h4, ih _ _ h5⟩))
    · exact Or.inr (Or.inr (Or.inr ⟨k, fi, ch, l, r, h1, h2, h3, h4, h5.imp id (fun ⟨cc, r', ha, hb, hc⟩ => ⟨cc, r', ha, hb, TC.up _ _ _ hc⟩)⟩))
theorem TQ.le {s : St} {d d' q : Nat} {c : List QT} (h : TQ s d q c) (hd : d ≤ d') : TQ s d' q c := by
  induction hd with
  | refl => exact h
  | step _ ih => exact TQ.up _ _ _ ih
/-! the reader's world -/
def RI (t : Nat → Nat) (n : Nat) (s : St) (i : Nat) : Prop := gI s 1538 = io i ∧ gI s 1537 = io n ∧ gR s 1536 = some 1 ∧ ∀ k, k < n → gA s 1 k = io (t k)
def FnR (s s' : St) : Prop := (∀ k, k ≠ 1538 → gI s' k = gI s k) ∧ gA s' = gA s ∧ gL s' = gL s ∧ gJ s' = gJ s ∧ gQ s' = gQ s ∧ gR s' = gR s ∧ sz s ≤ sz s' ∧ ∀ q, q < sz s → gD s' q = gD s q
theorem FnR.rf {s : St} : FnR s s := ⟨fun _ _ => rfl, rfl, rfl, rfl, rfl, rfl, Nat.le_refl _, fun _ _ => rfl⟩
theorem FnR.trans {s s1 s2 : St} (h : FnR s s1) (h2 : FnR s1 s2) : FnR s s2 :=
  ⟨fun k hk => (h2.1 k hk).trans (h.1 k hk), h2.2.1.trans h.2.1, h2.2.2.1.trans h.2.2.1, h2.2.2.2.1.trans h.2.2.2.1, h2.2.2.2.2.1.trans h.2.2.2.2.1, h2.2.2.2.2.2.1.trans h.2.2.2.2.2.1, Nat.le_trans h.2.2.2.2.2.2.1 h2.2.2.2.2.2.2.1, fun q hq => (h2.2.2.2.2.2.2.2 q (Nat.lt_of_lt_of_le hq h.2.2.2.2.2.2.1)).trans (h.2.2.2.2.2.2.2 q hq)⟩
theorem FnR.nm {s s' : St} (h : FnR s s') : NM s s' := ⟨h.2.2.2.2.2.2.1, fun q o hq hd => by rw [h.2.2.2.2.2.2.2 q hq]; exact hd⟩
theorem FnR.at {s : St} {x : Int32} : FnR s (sI s 1538 x) := ⟨fun k hk => by rw [gI_sI, if_neg hk], rfl, rfl, rfl, rfl, rfl, Nat.le_refl _, fun _ _ => rfl⟩
theorem RI.fr {t : Nat → Nat} {n i j : Nat} {s s' : St} (H : RI t n s i) (f : FnR s s') (hj : gI s' 1538 = io j) : RI t n s' j :=
  ⟨hj, by rw [f.1 1537 (by decide)]; exact H.2.1, by rw [f.2.2.2.2.2.1]; exact H.2.2.1, by rw [f.2.1]; exact H.2.2.2⟩
theorem RI.at {t : Nat → Nat} {n i j : Nat} {s : St} (H : RI t n s i) : RI t n (sI s 1538 (io j)) j := H.fr FnR.at rfl
theorem here_eq {F n i : Nat} {t : Nat → Nat} {s : St} (T : TXT t n) (H : RI t n s i) (hi : i ≤ n) : f_Reader_here F s = some (io (t i), s) := by
  have hn := T.1
  obtain ⟨h1, h2, h3, h4⟩ := H
  have n1 : ¬ i < 0 := by omega
  by_cases h : n ≤ i
  · rw [T.2.2 i h]
    simp (disch := omega) only [f_Reader_here, Option.bind_some, Nat.reduceEqDiff, Nat.add_zero, Nat.zero_add, Nat.reduceLT, Nat.reduceLeDiff, Nat.reduceAdd, Nat.reduceSub, Nat.reduceMul, Nat.reduceDiv, Nat.lt_irrefl, Nat.not_lt_zero, Nat.zero_le, Nat.one_ne_zero, Nat.succ_ne_zero,  lt_def, i32_lit, reduceIte, P_isIn_eq, M_isIn_eq, M_goes_eq, or_false, false_or, or_true, true_or, and_true, true_and, and_false, false_and, not_true, not_false_eq_true, eq_self, if_true, if_false, not_or, not_and, Nat.not_lt, Nat.not_le, h1, h2, io_lt, n1, io_le, h]
  · have n2 : ¬ 40 ≤ i := by omega
    have e := h4 i (by omega)
    simp (disch := omega) only [f_Reader_here, Option.bind_some, Nat.reduceEqDiff, Nat.add_zero, Nat.zero_add, Nat.reduceLT, Nat.reduceLeDiff, Nat.reduceAdd, Nat.reduceSub, Nat.reduceMul, Nat.reduceDiv, Nat.lt_irrefl, Nat.not_lt_zero, Nat.zero_le, Nat.one_ne_zero, Nat.succ_ne_zero,  lt_def, i32_lit, reduceIte, P_isIn_eq, M_isIn_eq, M_goes_eq, or_false, false_or, or_true, true_or, and_true, true_and, and_false, false_and, not_true, not_false_eq_true, eq_self, if_true, if_false, not_or, not_and, Nat.not_lt, Nat.not_le, h1, h2, h3, io_lt, n1, io_le, h, n2, ix_io, e]
theorem tlt {t : Nat → Nat} {n i : Nat} (T : TXT t n) : t i < 1000 := by
  rcases Nat.lt_or_ge i n with h | h
  · have := (T.2.1 i h).2; omega
  · rw [T.2.2 i h]; omega
theorem isDigit_eq {F c : Nat} {s : St} (hc : c < 1000) : f_P_isDigit F s (io c) = some (if dgt c = true then io 1 else io 0, s) := by
  unfold dgt
  by_cases h1 : c < 48
  · have h2 : ¬ (48 ≤ c ∧ c ≤ 57) := by omega
    simp (disch := omega) only [f_P_isDigit, Option.bind_some, Nat.reduceEqDiff, Nat.add_zero, Nat.zero_add, Nat.reduceLT, Nat.reduceLeDiff, Nat.reduceAdd, Nat.reduceSub, Nat.reduceMul, Nat.reduceDiv, Nat.lt_irrefl, Nat.not_lt_zero, Nat.zero_le, Nat.one_ne_zero, Nat.succ_ne_zero,  lt_def, i32_lit, reduceIte, P_isIn_eq, M_isIn_eq, M_goes_eq, or_false, false_or, or_true, true_or, and_true, true_and, and_false, false_and, not_true, not_false_eq_true, eq_self, if_true, if_false, not_or, not_and, Nat.not_lt, Nat.not_le, io_lt, h1, h2, decide_false, Bool.false_eq_true]
  · by_cases h3 : 57 < c
    · have h2 : ¬ (48 ≤ c ∧ c ≤ 57) := by omega
      simp (disch := omega) only [f_P_isDigit, Option.bind_some, Nat.reduceEqDiff, Nat.add_zero, Nat.zero_add, Nat.reduceLT, Nat.reduceLeDiff, Nat.reduceAdd, Nat.reduceSub, Nat.reduceMul, Nat.reduceDiv, Nat.lt_irrefl, Nat.not_lt_zero, Nat.zero_le, Nat.one_ne_zero, Nat.succ_ne_zero,  lt_def, i32_lit, reduceIte, P_isIn_eq, M_isIn_eq, M_goes_eq, or_false, false_or, or_true, true_or, and_true, true_and, and_false, false_and, not_true, not_false_eq_true, eq_self, if_true, if_false, not_or, not_and, Nat.not_lt, Nat.not_le, io_lt, h1, h2, h3, decide_false, Bool.false_eq_true]
    · have h2 : 48 ≤ c ∧ c ≤ 57 := by omega
      simp (disch := omega) only [f_P_isDigit, Option.bind_some, Nat.reduceEqDiff, Nat.add_zero, Nat.zero_add, Nat.reduceLT, Nat.reduceLeDiff, Nat.reduceAdd, Nat.reduceSub, Nat.reduceMul, Nat.reduceDiv, Nat.lt_irrefl, Nat.not_lt_zero, Nat.zero_le, Nat.one_ne_zero, Nat.succ_ne_zero,  lt_def, i32_lit, reduceIte, P_isIn_eq, M_isIn_eq, M_goes_eq, or_false, false_or, or_true, true_or, and_true, true_and, and_false, false_and, not_true, not_false_eq_true, eq_self, if_true, if_false, not_or, not_and, Nat.not_lt, Nat.not_le, io_lt, h1, h2, h3, decide_true, and_self]
theorem isField_eq {F c : Nat} {s : St} (hc : c < 1000) : f_P_isField F s (io c) = some (if fdc c = true then io 1 else io 0, s) := by
  unfold fdc
  by_cases h1 : c = 112
  · subst h1; simp (disch := omega) only [f_P_isField, Option.bind_some, Nat.reduceEqDiff, Nat.add_zero, Nat.zero_add, Nat.reduceLT, Nat.reduceLeDiff, Nat.reduceAdd, Nat.reduceSub, Nat.reduceMul, Nat.reduceDiv, Nat.lt_irrefl, Nat.not_lt_zero, Nat.zero_le, Nat.one_ne_zero, Nat.succ_ne_zero,  lt_def, i32_lit, reduceIte, P_isIn_eq, M_isIn_eq, M_goes_eq, or_false, false_or, or_true, true_or, and_true, true_and, and_false, false_and, not_true, not_false_eq_true, eq_self, if_true, if_false, not_or, not_and, Nat.not_lt, Nat.not_le, io_eq, decide_true]
  · by_cases h2 : c = 108
    · subst h2; simp (disch := omega) only [f_P_isField, Option.bind_some, Nat.reduceEqDiff, Nat.add_zero, Nat.zero_add, Nat.reduceLT, Nat.reduceLeDiff, Nat.reduceAdd, Nat.reduceSub, Nat.reduceMul, Nat.reduceDiv, Nat.lt_irrefl, Nat.not_lt_zero, Nat.zero_le, Nat.one_ne_zero, Nat.succ_ne_zero,  lt_def, i32_lit, reduceIte, P_isIn_eq, M_isIn_eq, M_goes_eq, or_false, false_or, or_true, true_or, and_true, true_and, and_false, false_and, not_true, not_false_eq_true, eq_self, if_true, if_false, not_or, not_and, Nat.not_lt, Nat.not_le, io_eq, decide_true]
    · by_cases h3 : c = 118
      · subst h3; simp (disch := omega) only [f_P_isField, Option.bind_some, Nat.reduceEqDiff, Nat.add_zero, Nat.zero_add, Nat.reduceLT, Nat.reduceLeDiff, Nat.reduceAdd, Nat.reduceSub, Nat.reduceMul, Nat.reduceDiv, Nat.lt_irrefl, Nat.not_lt_zero, Nat.zero_le, Nat.one_ne_zero, Nat.succ_ne_zero,  lt_def, i32_lit, reduceIte, P_isIn_eq, M_isIn_eq, M_goes_eq, or_false, false_or, or_true, true_or, and_true, true_and, and_false, false_and, not_true, not_false_eq_true, eq_self, if_true, if_false, not_or, not_and, Nat.not_lt, Nat.not_le, io_eq, decide_true]
      · by_cases h4 : c = 104
        · subst h4; simp (disch := omega) only [f_P_isField, Option.bind_some, Nat.reduceEqDiff, Nat.add_zero, Nat.zero_add, Nat.reduceLT, Nat.reduceLeDiff, Nat.reduceAdd, Nat.reduceSub, Nat.reduceMul, Nat.reduceDiv, Nat.lt_irrefl, Nat.not_lt_zero, Nat.zero_le, Nat.one_ne_zero, Nat.succ_ne_zero,  lt_def, i32_lit, reduceIte, P_isIn_eq, M_isIn_eq, M_goes_eq, or_false, false_or, or_true, true_or, and_true, true_and, and_false, false_and, not_true, not_false_eq_true, eq_self, if_true, if_false, not_or, not_and, Nat.not_lt, Nat.not_le, io_eq, decide_true]
        · simp (disch := omega) only [f_P_isField, Option.bind_some, Nat.reduceEqDiff, Nat.add_zero, Nat.zero_add, Nat.reduceLT, Nat.reduceLeDiff, Nat.reduceAdd, Nat.reduceSub, Nat.reduceMul, Nat.reduceDiv, Nat.lt_irrefl, Nat.not_lt_zero, Nat.zero_le, Nat.one_ne_zero, Nat.succ_ne_zero,  lt_def, i32_lit, reduceIte, P_isIn_eq, M_isIn_eq, M_goes_eq, or_false, false_or, or_true, true_or, and_true, true_and, and_false, false_and, not_true, not_false_eq_true, eq_self, if_true, if_false, not_or, not_and, Nat.not_lt, Nat.not_le, io_eq, h1, h2, h3, h4, decide_false, Bool.false_eq_true, or_self]
theorem isCmp_eq {F c : Nat} {s : St} (hc : c < 1000) : f_P_isComparison F s (io c) = some (if cmc c = true then io 1 else io 0, s) := by
  unfold cmc
  by_cases h1 : c = 60
  · subst h1; simp (disch := omega) only [f_P_isComparison, Option.bind_some, Nat.reduceEqDiff, Nat.add_zero, Nat.zero_add, Nat.reduceLT, Nat.reduceLeDiff, Nat.reduceAdd, Nat.reduceSub, Nat.reduceMul, Nat.reduceDiv, Nat.lt_irrefl, Nat.not_lt_zero, Nat.zero_le, Nat.one_ne_zero, Nat.succ_ne_zero,  lt_def, i32_lit, reduceIte, P_isIn_eq, M_isIn_eq, M_goes_eq, or_false, false_or, or_true, true_or, and_true, true_and, and_false, false_and, not_true, not_false_eq_true, eq_self, if_true, if_false, not_or, not_and, Nat.not_lt, Nat.not_le, io_eq, decide_true]
  · by_cases h2 : c = 62
    · subst h2; simp (disch := omega) only [f_P_isComparison, Option.bind_some, Nat.reduceEqDiff, Nat.add_zero, Nat.zero_add, Nat.reduceLT, Nat.reduceLeDiff, Nat.reduceAdd, Nat.reduceSub, Nat.reduceMul, Nat.reduceDiv, Nat.lt_irrefl, Nat.not_lt_zero, Nat.zero_le, Nat.one_ne_zero, Nat.succ_ne_zero,  lt_def, i32_lit, reduceIte, P_isIn_eq, M_isIn_eq, M_goes_eq, or_false, false_or, or_true, true_or, and_true, true_and, and_false, false_and, not_true, not_false_eq_true, eq_self, if_true, if_false, not_or, not_and, Nat.not_lt, Nat.not_le, io_eq, decide_true]
    · by_cases h3 : c = 61
      · subst h3; simp (disch := omega) only [f_P_isComparison, Option.bind_some, Nat.reduceEqDiff, Nat.add_zero, Nat.zero_add, Nat.reduceLT, Nat.reduceLeDiff, Nat.reduceAdd, Nat.reduceSub, Nat.reduceMul, Nat.reduceDiv, Nat.lt_irrefl, Nat.not_lt_zero, Nat.zero_le, Nat.one_ne_zero, Nat.succ_ne_zero,  lt_def, i32_lit, reduceIte, P_isIn_eq, M_isIn_eq, M_goes_eq, or_false, false_or, or_true, true_or, and_true, true_and, and_false, false_and, not_true, not_false_eq_true, eq_self, if_true, if_false, not_or, not_and, Nat.not_lt, Nat.not_le, io_eq, decide_true]
      · simp (disch := omega) only [f_P_isComparison, Option.bind_some, Nat.reduceEqDiff, Nat.add_zero, Nat.zero_add, Nat.reduceLT, Nat.reduceLeDiff, Nat.reduceAdd, Nat.reduceSub, Nat.reduceMul, Nat.reduceDiv, Nat.lt_irrefl, Nat.not_lt_zero, Nat.zero_le, Nat.one_ne_zero, Nat.succ_ne_zero,  lt_def, i32_lit, reduceIte, P_isIn_eq, M_isIn_eq, M_goes_eq, or_false, false_or, or_true, true_or, and_true, true_and, and_false, false_and, not_true, not_false_eq_true, eq_self, if_true, if_false, not_or, not_and, Nat.not_lt, Nat.not_le, io_eq, h1, h2, h3, decide_false, Bool.false_eq_true, or_self]
theorem isAgg_eq {F c : Nat} {s : St} (hc : c < 1000) : f_P_isAggregate F s (io c) = some (if agc c = true then io 1 else io 0, s) := by
  unfold agc
  by_cases h1 : c = 100
  · subst h1; simp (disch := omega) only [f_P_isAggregate, Option.bind_some, Nat.reduceEqDiff, Nat.add_zero, Nat.zero_add, Nat.reduceLT, Nat.reduceLeDiff, Nat.reduceAdd, Nat.reduceSub, Nat.reduceMul, Nat.reduceDiv, Nat.lt_irrefl, Nat.not_lt_zero, Nat.zero_le, Nat.one_ne_zero, Nat.succ_ne_zero,  lt_def, i32_lit, reduceIte, P_isIn_eq, M_isIn_eq, M_goes_eq, or_false, false_or, or_true, true_or, and_true, true_and, and_false, false_and, not_true, not_false_eq_true, eq_self, if_true, if_false, not_or, not_and, Nat.not_lt, Nat.not_le, io_eq, decide_true]
  · by_cases h2 : c = 109
    · subst h2; simp (disch := omega) only [f_P_isAggregate, Option.bind_some, Nat.reduceEqDiff, Nat.add_zero, Nat.zero_add, Nat.reduceLT, Nat.reduceLeDiff, Nat.reduceAdd, Nat.reduceSub, Nat.reduceMul, Nat.reduceDiv, Nat.lt_irrefl, Nat.not_lt_zero, Nat.zero_le, Nat.one_ne_zero, Nat.succ_ne_zero,  lt_def, i32_lit, reduceIte, P_isIn_eq, M_isIn_eq, M_goes_eq, or_false, false_or, or_true, true_or, and_true, true_and, and_false, false_and, not_true, not_false_eq_true, eq_self, if_true, if_false, not_or, not_and, Nat.not_lt, Nat.not_le, io_eq, decide_true]
    · by_cases h3 : c = 110
      · subst h3; simp (disch := omega) only [f_P_isAggregate, Option.bind_some, Nat.reduceEqDiff, Nat.add_zero, Nat.zero_add, Nat.reduceLT, Nat.reduceLeDiff, Nat.reduceAdd, Nat.reduceSub, Nat.reduceMul, Nat.reduceDiv, Nat.lt_irrefl, Nat.not_lt_zero, Nat.zero_le, Nat.one_ne_zero, Nat.succ_ne_zero,  lt_def, i32_lit, reduceIte, P_isIn_eq, M_isIn_eq, M_goes_eq, or_false, false_or, or_true, true_or, and_true, true_and, and_false, false_and, not_true, not_false_eq_true, eq_self, if_true, if_false, not_or, not_and, Nat.not_lt, Nat.not_le, io_eq, decide_true]
      · by_cases h4 : c = 115
        · subst h4; simp (disch := omega) only [f_P_isAggregate, Option.bind_some, Nat.reduceEqDiff, Nat.add_zero, Nat.zero_add, Nat.reduceLT, Nat.reduceLeDiff, Nat.reduceAdd, Nat.reduceSub, Nat.reduceMul, Nat.reduceDiv, Nat.lt_irrefl, Nat.not_lt_zero, Nat.zero_le, Nat.one_ne_zero, Nat.succ_ne_zero,  lt_def, i32_lit, reduceIte, P_isIn_eq, M_isIn_eq, M_goes_eq, or_false, false_or, or_true, true_or, and_true, true_and, and_false, false_and, not_true, not_false_eq_true, eq_self, if_true, if_false, not_or, not_and, Nat.not_lt, Nat.not_le, io_eq, decide_true]
        · by_cases h5 : c = 116
          · subst h5; simp (disch := omega) only [f_P_isAggregate, Option.bind_some, Nat.reduceEqDiff, Nat.add_zero, Nat.zero_add, Nat.reduceLT, Nat.reduceLeDiff, Nat.reduceAdd, Nat.reduceSub, Nat.reduceMul, Nat.reduceDiv, Nat.lt_irrefl, Nat.not_lt_zero, Nat.zero_le, Nat.one_ne_zero, Nat.succ_ne_zero,  lt_def, i32_lit, reduceIte, P_isIn_eq, M_isIn_eq, M_goes_eq, or_false, false_or, or_true, true_or, and_true, true_and, and_false, false_and, not_true, not_false_eq_true, eq_self, if_true, if_false, not_or, not_and, Nat.not_lt, Nat.not_le, io_eq, decide_true]
          · by_cases h6 : c = 120
            · subst h6; simp (disch := omega) only [f_P_isAggregate, Option.bind_some, Nat.reduceEqDiff, Nat.add_zero, Nat.zero_add, Nat.reduceLT, Nat.reduceLeDiff, Nat.reduceAdd, Nat.reduceSub, Nat.reduceMul, Nat.reduceDiv, Nat.lt_irrefl, Nat.not_lt_zero, Nat.zero_le, Nat.one_ne_zero, Nat.succ_ne_zero,  lt_def, i32_lit, reduceIte, P_isIn_eq, M_isIn_eq, M_goes_eq, or_false, false_or, or_true, true_or, and_true, true_and, and_false, false_and, not_true, not_false_eq_true, eq_self, if_true, if_false, not_or, not_and, Nat.not_lt, Nat.not_le, io_eq, decide_true]
            · simp (disch := omega) only [f_P_isAggregate, Option.bind_some, Nat.reduceEqDiff, Nat.add_zero, Nat.zero_add, Nat.reduceLT, Nat.reduceLeDiff, Nat.reduceAdd, Nat.reduceSub, Nat.reduceMul, Nat.reduceDiv, Nat.lt_irrefl, Nat.not_lt_zero, Nat.zero_le, Nat.one_ne_zero, Nat.succ_ne_zero,  lt_def, i32_lit, reduceIte, P_isIn_eq, M_isIn_eq, M_goes_eq, or_false, false_or, or_true, true_or, and_true, true_and, and_false, false_and, not_true, not_false_eq_true, eq_self, if_true, if_false, not_or, not_and, Nat.not_lt, Nat.not_le, io_eq, h1, h2, h3, h4, h5, h6, decide_false, Bool.false_eq_true, or_self]
theorem isSign_eq {F g c : Nat} {s : St} (hg : g ≤ 4) (hc : c < 1000) : f_Reader_isSignOf F s (io g) (io c) = some (if sgc g c = true then io 1 else io 0, s) := by
  unfold sgc
  rcases (by omega : g = 0 ∨ g = 1 ∨ g = 2 ∨ g = 3 ∨ g = 4) with rfl | rfl | rfl | rfl | rfl
  · have e := isCmp_eq (F := F) (s := s) hc
    by_cases h : cmc c = true
    · rw [if_pos h] at e
      simp (disch := omega) only [f_Reader_isSignOf, Option.bind_some, Nat.reduceEqDiff, Nat.add_zero, Nat.zero_add, Nat.reduceLT, Nat.reduceLeDiff, Nat.reduceAdd, Nat.reduceSub, Nat.reduceMul, Nat.reduceDiv, Nat.lt_irrefl, Nat.not_lt_zero, Nat.zero_le, Nat.one_ne_zero, Nat.succ_ne_zero,  lt_def, i32_lit, reduceIte, P_isIn_eq, M_isIn_eq, M_goes_eq, or_false, false_or, or_true, true_or, and_true, true_and, and_false, false_and, not_true, not_false_eq_true, eq_self, if_true, if_false, not_or, not_and, Nat.not_lt, Nat.not_le, io_eq, e, h]
    · rw [if_neg h] at e
      simp (disch := omega) only [f_Reader_isSignOf, Option.bind_some, Nat.reduceEqDiff, Nat.add_zero, Nat.zero_add, Nat.reduceLT, Nat.reduceLeDiff, Nat.reduceAdd, Nat.reduceSub, Nat.reduceMul, Nat.reduceDiv, Nat.lt_irrefl, Nat.not_lt_zero, Nat.zero_le, Nat.one_ne_zero, Nat.succ_ne_zero,  lt_def, i32_lit, reduceIte, P_isIn_eq, M_isIn_eq, M_goes_eq, or_false, false_or, or_true, true_or, and_true, true_and, and_false, false_and, not_true, not_false_eq_true, eq_self, if_true, if_false, not_or, not_and, Nat.not_lt, Nat.not_le, io_eq, e, h, Bool.false_eq_true]
  · by_cases h1 : c = 43
    · subst h1; simp (disch := omega) only [f_Reader_isSignOf, Option.bind_some, Nat.reduceEqDiff, Nat.add_zero, Nat.zero_add, Nat.reduceLT, Nat.reduceLeDiff, Nat.reduceAdd, Nat.reduceSub, Nat.reduceMul, Nat.reduceDiv, Nat.lt_irrefl, Nat.not_lt_zero, Nat.zero_le, Nat.one_ne_zero, Nat.succ_ne_zero,  lt_def, i32_lit, reduceIte, P_isIn_eq, M_isIn_eq, M_goes_eq, or_false, false_or, or_true, true_or, and_true, true_and, and_false, false_and, not_true, not_false_eq_true, eq_self, if_true, if_false, not_or, not_and, Nat.not_lt, Nat.not_le, io_eq, decide_true]
    · by_cases h2 : c = 45
      · subst h2; simp (disch := omega) only [f_Reader_isSignOf, Option.bind_some, Nat.reduceEqDiff, Nat.add_zero, Nat.zero_add, Nat.reduceLT, Nat.reduceLeDiff, Nat.reduceAdd, Nat.reduceSub, Nat.reduceMul, Nat.reduceDiv, Nat.lt_irrefl, Nat.not_lt_zero, Nat.zero_le, Nat.one_ne_zero, Nat.succ_ne_zero,  lt_def, i32_lit, reduceIte, P_isIn_eq, M_isIn_eq, M_goes_eq, or_false, false_or, or_true, true_or, and_true, true_and, and_false, false_and, not_true, not_false_eq_true, eq_self, if_true, if_false, not_or, not_and, Nat.not_lt, Nat.not_le, io_eq, decide_true]
      · simp (disch := omega) only [f_Reader_isSignOf, Option.bind_some, Nat.reduceEqDiff, Nat.add_zero, Nat.zero_add, Nat.reduceLT, Nat.reduceLeDiff, Nat.reduceAdd, Nat.reduceSub, Nat.reduceMul, Nat.reduceDiv, Nat.lt_irrefl, Nat.not_lt_zero, Nat.zero_le, Nat.one_ne_zero, Nat.succ_ne_zero,  lt_def, i32_lit, reduceIte, P_isIn_eq, M_isIn_eq, M_goes_eq, or_false, false_or, or_true, true_or, and_true, true_and, and_false, false_and, not_true, not_false_eq_true, eq_self, if_true, if_false, not_or, not_and, Nat.not_lt, Nat.not_le, io_eq, h1, h2, decide_false, Bool.false_eq_true, or_self]
  · by_cases h1 : c = 42
    · subst h1; simp (disch := omega) only [f_Reader_isSignOf, Option.bind_some, Nat.reduceEqDiff, Nat.add_zero, Nat.zero_add, Nat.reduceLT, Nat.reduceLeDiff, Nat.reduceAdd, Nat.reduceSub, Nat.reduceMul, Nat.reduceDiv, Nat.lt_irrefl, Nat.not_lt_zero, Nat.zero_le, Nat.one_ne_zero, Nat.succ_ne_zero,  lt_def, i32_lit, reduceIte, P_isIn_eq, M_isIn_eq, M_goes_eq, or_false, false_or, or_true, true_or, and_true, true_and, and_false, false_and, not_true, not_false_eq_true, eq_self, if_true, if_false, not_or, not_and, Nat.not_lt, Nat.not_le, io_eq, decide_true]
    · by_cases h2 : c = 47
      · subst h2; simp (disch := omega) only [f_Reader_isSignOf, Option.bind_some, Nat.reduceEqDiff, Nat.add_zero, Nat.zero_add, Nat.reduceLT, Nat.reduceLeDiff, Nat.reduceAdd, Nat.reduceSub, Nat.reduceMul, Nat.reduceDiv, Nat.lt_irrefl, Nat.not_lt_zero, Nat.zero_le, Nat.one_ne_zero, Nat.succ_ne_zero,  lt_def, i32_lit, reduceIte, P_isIn_eq, M_isIn_eq, M_goes_eq, or_false, false_or, or_true, true_or, and_true, true_and, and_false, false_and, not_true, not_false_eq_true, eq_self, if_true, if_false, not_or, not_and, Nat.not_lt, Nat.not_le, io_eq, decide_true]
      · simp (disch := omega) only [f_Reader_isSignOf, Option.bind_some, Nat.reduceEqDiff, Nat.add_zero, Nat.zero_add, Nat.reduceLT, Nat.reduceLeDiff, Nat.reduceAdd, Nat.reduceSub, Nat.reduceMul, Nat.reduceDiv, Nat.lt_irrefl, Nat.not_lt_zero, Nat.zero_le, Nat.one_ne_zero, Nat.succ_ne_zero,  lt_def, i32_lit, reduceIte, P_isIn_eq, M_isIn_eq, M_goes_eq, or_false, false_or, or_true, true_or, and_true, true_and, and_false, false_and, not_true, not_false_eq_true, eq_self, if_true, if_false, not_or, not_and, Nat.not_lt, Nat.not_le, io_eq, h1, h2, decide_false, Bool.false_eq_true, or_self]
  · by_cases h1 : c = 124
    · subst h1; simp (disch := omega) only [f_Reader_isSignOf, Option.bind_some, Nat.reduceEqDiff, Nat.add_zero, Nat.zero_add, Nat.reduceLT, Nat.reduceLeDiff, Nat.reduceAdd, Nat.reduceSub, Nat.reduceMul, Nat.reduceDiv, Nat.lt_irrefl, Nat.not_lt_zero, Nat.zero_le, Nat.one_ne_zero, Nat.succ_ne_zero,  lt_def, i32_lit, reduceIte, P_isIn_eq, M_isIn_eq, M_goes_eq, or_false, false_or, or_true, true_or, and_true, true_and, and_false, false_and, not_true, not_false_eq_true, eq_self, if_true, if_false, not_or, not_and, Nat.not_lt, Nat.not_le, io_eq, decide_true]
    · simp (disch := omega) only [f_Reader_isSignOf, Option.bind_some, Nat.reduceEqDiff, Nat.add_zero, Nat.zero_add, Nat.reduceLT, Nat.reduceLeDiff, Nat.reduceAdd, Nat.reduceSub, Nat.reduceMul, Nat.reduceDiv, Nat.lt_irrefl, Nat.not_lt_zero, Nat.zero_le, Nat.one_ne_zero, Nat.succ_ne_zero,  lt_def, i32_lit, reduceIte, P_isIn_eq, M_isIn_eq, M_goes_eq, or_false, false_or, or_true, true_or, and_true, true_and, and_false, false_and, not_true, not_false_eq_true, eq_self, if_true, if_false, not_or, not_and, Nat.not_lt, Nat.not_le, io_eq, h1, decide_false, Bool.false_eq_true]
  · by_cases h1 : c = 38
    · subst h1; simp (disch := omega) only [f_Reader_isSignOf, Option.bind_some, Nat.reduceEqDiff, Nat.add_zero, Nat.zero_add, Nat.reduceLT, Nat.reduceLeDiff, Nat.reduceAdd, Nat.reduceSub, Nat.reduceMul, Nat.reduceDiv, Nat.lt_irrefl, Nat.not_lt_zero, Nat.zero_le, Nat.one_ne_zero, Nat.succ_ne_zero,  lt_def, i32_lit, reduceIte, P_isIn_eq, M_isIn_eq, M_goes_eq, or_false, false_or, or_true, true_or, and_true, true_and, and_false, false_and, not_true, not_false_eq_true, eq_self, if_true, if_false, not_or, not_and, Nat.not_lt, Nat.not_le, io_eq, decide_true]
    · simp (disch := omega) only [f_Reader_isSignOf, Option.bind_some, Nat.reduceEqDiff, Nat.add_zero, Nat.zero_add, Nat.reduceLT, Nat.reduceLeDiff, Nat.reduceAdd, Nat.reduceSub, Nat.reduceMul, Nat.reduceDiv, Nat.lt_irrefl, Nat.not_lt_zero, Nat.zero_le, Nat.one_ne_zero, Nat.succ_ne_zero,  lt_def, i32_lit, reduceIte, P_isIn_eq, M_isIn_eq, M_goes_eq, or_false, false_or, or_true, true_or, and_true, true_and, and_false, false_and, not_true, not_false_eq_true, eq_self, if_true, if_false, not_or, not_and, Nat.not_lt, Nat.not_le, io_eq, h1, decide_false, Bool.false_eq_true]
/-! a node is made -/
theorem dgo_at {s : St} {q : Nat} {o : (Nat → Int32) × (Nat → Option Nat) × (Nat → Int64)} {ci : Nat} (h : gD s q = some (.inl (ci, o))) : dgo s (some q) ci = some (q, o) := by
  unfold dgo
  simp only [h, if_true]
theorem dgo_sF {s : St} {o : Nat × (Nat → Int32) × (Nat → Option Nat) × (Nat → Int64)} {ci : Nat} {x : (Nat → Int32) × (Nat → Option Nat) × (Nat → Int64)} : dgo (sF s o ci x) (some o.1) ci = some (o.1, x) := by
  refine dgo_at ?_
  show gD (sD s o.1 (.inl (ci, x))) o.1 = _
  rw [gD_sD, if_pos rfl]
theorem gD_sF {s : St} {o : Nat × (Nat → Int32) × (Nat → Option Nat) × (Nat → Int64)} {ci p : Nat} {x : (Nat → Int32) × (Nat → Option Nat) × (Nat → Int64)} : gD (sF s o ci x) p = if p = o.1 then some (.inl (ci, x)) else gD s p := rfl
/-- all but the cell q is as it was -/
def OC (q : Nat) (s s' : St) : Prop := gI s' = gI s ∧ gA s' = gA s ∧ gL s' = gL s ∧ gJ s' = gJ s ∧ gQ s' = gQ s ∧ gR s' = gR s ∧ sz s' = sz s ∧ ∀ p, p ≠ q → gD s' p = gD s p
theorem node_init {F q : Nat} {s : St} {o : (Nat → Int32) × (Nat → Option Nat) × (Nat → Int64)} {k n : Int32} {l r : Option Nat} (h : gD s q = some (.inl (3, o))) : ∃ s', f_Node_init F s (some q) k n l r = some s' ∧ OC q s s' ∧ ∃ o', gD s' q = some (.inl (3, o')) ∧ o'.1 0 = k ∧ o'.1 1 = n ∧ o'.2.1 2 = l ∧ o'.2.1 3 = r := by
  have e : ∀ (s : St) (o x : (Nat → Int32) × (Nat → Option Nat) × (Nat → Int64)), dgo (sF s (q, o) 3 x) (some q) 3 = some (q, x) := fun s o x => dgo_sF (o := (q, o))
  refine ⟨sF (sF (sF (sF s (q, o) 3 (ups o.1 0 k, o.2)) (q, ups o.1 0 k, o.2) 3 (ups (ups o.1 0 k) 1 n, o.2)) (q, ups (ups o.1 0 k) 1 n, o.2) 3 (ups (ups o.1 0 k) 1 n, ups o.2.1 2 l, o.2.2)) (q, ups (ups o.1 0 k) 1 n, ups o.2.1 2 l, o.2.2) 3 (ups (ups o.1 0 k) 1 n, ups (ups o.2.1 2 l) 3 r, o.2.2), ?_, ?_⟩
  · simp only [f_Node_init, dgo_at h, e, Option.bind_some, lt_def]
  · refine ⟨⟨rfl, rfl, rfl, rfl, rfl, rfl, rfl, fun p hp => ?_⟩, ?_⟩
    · simp only [gD_sF, hp, if_false]
    · refine ⟨_, by rw [gD_sF, if_pos rfl], ?_, ?_, ?_, ?_⟩ <;> simp [ups]
def z3 : Dy := .inl (3, fun _ => io 0, fun _ => none, fun _ => 0)
theorem z3_eq : (Sum.inl (3, (fun _ => io 0), (fun _ => none), (fun _ => 0)) : Dy) = z3 := rfl
/-- a node is made and filled -/
theorem node_new {F : Nat} {s : St} {k n : Int32} {l r : Option Nat} : ∃ s', f_Node_init F (sN s z3) (some (sz s)) k n l r = some s' ∧ FnR s s' ∧ gI s' = gI s ∧ sz s' = sz s + 1 ∧ nd s' (sz s) k n l r := by
  have h : gD (sN s z3) (sz s) = some (.inl (3, fun _ => io 0, fun _ => none, fun _ => 0)) := by rw [gD_sN, if_pos rfl]; rfl
  obtain ⟨s', h1, ⟨c1, c2, c3, c4, c5, c6, c7, c8⟩, o', h3, h4⟩ := node_init (F := F) (k := k) (n := n) (l := l) (r := r) h
  refine ⟨s', h1, ⟨fun j _ => by rw [c1]; rfl, c2, c3, c4, c5, c6, by rw [c7]; show sz s ≤ sz s + 1; omega, fun q hq => ?_⟩, c1, c7, ?_, o', h3, h4⟩
  · rw [c8 q (by omega), gD_sN, if_neg (by omega)]
  · rw [c7]; show sz s < sz s + 1; omega
theorem node_dgo {s : St} : dgo (sN s z3) (some (sz s)) 3 = some (sz s, (fun _ => io 0, fun _ => none, fun _ => 0)) := dgo_at (by rw [gD_sN, if_pos rfl]; rfl)
