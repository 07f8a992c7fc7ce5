/-! is a rule due -/
def EID : List Nat := [201, 1985, 1987, 1988, 1989]
def EAD : List Nat := [11, 32, 33]
theorem silent_loop {F : Nat} {s : St} {x : RU} (X : RC1 s x) (hl : (us x).length ≤ 5) (hb : ∀ e ∈ us x, e.1 ≤ e.2 ∧ e.2 ≤ 1000) {th : Nat} (hth : th ≤ 1000) : ∀ k n i, i + k = (us x).length → k < n → f_Rule_isSilentIn_b2 F n s (some (uq x)) (io th) (io i) = some (if silB ((us x).drop i) th then io 1 else io 0, s) := by
  obtain ⟨a1, o, g6, g7, nq, a2, a3, a4, a5, a6, a7, a8, a9, a10, a11, a12, a13, a14, a15, a16, a17⟩ := X
  have d1 := dgo_at a2
  have d6 : dga s (some (uq x + 1)) 1 = some (uq x + 1, 5, g6) := dga_at a3
  have d7 : dga s (some (uq x + 2)) 1 = some (uq x + 2, 5, g7) := dga_at a4
  intro k
  induction k with
  | zero =>
    intro n i hi hn
    obtain ⟨n, rfl⟩ : ∃ n', n = n' + 1 := ⟨n - 1, by omega⟩
    have hi' : i = (us x).length := by omega
    subst hi'
    have e : silB ((us x).drop (us x).length) th = false := by rw [List.drop_length]; rfl
    rw [e]
    simp (disch := omega) only [f_Rule_isSilentIn_b2, Option.bind_some, Nat.reduceEqDiff, Nat.add_zero, Nat.zero_add, Nat.reduceLT, Nat.reduceLeDiff, Nat.reduceAdd, Nat.reduceSub, Nat.reduceMul, Nat.reduceDiv, Nat.lt_irrefl, Nat.not_lt_zero, Nat.zero_le, Nat.one_ne_zero, Nat.succ_ne_zero,  lt_def, i32_lit, reduceIte, P_isIn_eq, M_isIn_eq, M_goes_eq, or_false, false_or, or_true, true_or, and_true, true_and, and_false, false_and, not_true, not_false_eq_true, eq_self, if_true, if_false, not_or, not_and, Nat.not_lt, Nat.not_le, d1, a10, io_le, Nat.le_refl, reduceCtorEq]
  | succ k ih =>
    intro n i hi hn
    obtain ⟨n, rfl⟩ : ∃ n', n = n' + 1 := ⟨n - 1, by omega⟩
    have hil : i < (us x).length := by omega
    have n1 : ¬ (us x).length ≤ i := by omega
    have n2 : ¬ 5 ≤ i := by omega
    have ihh := ih n (i + 1) (by omega) (by omega)
    obtain ⟨b1, b2⟩ := a17 i hil
    have hbi := hb (us x)[i] (List.getElem_mem hil)
    have ed : (us x).drop i = (us x)[i] :: (us x).drop (i + 1) := List.drop_eq_getElem_cons hil
    have es : silB ((us x).drop i) th = (decide ((us x)[i].1 ≤ th ∧ th ≤ (us x)[i].2) || silB ((us x).drop (i + 1)) th) := by rw [ed]; rfl
    by_cases hc : (us x)[i].1 ≤ th ∧ th ≤ (us x)[i].2
    · have q1 : ¬ th < (us x)[i].1 := by omega
      have q2 : ¬ (us x)[i].2 < th := by omega
      rw [es, decide_eq_true hc, Bool.true_or, if_pos rfl]
      simp (disch := omega) only [f_Rule_isSilentIn_b2, Option.bind_some, Nat.reduceEqDiff, Nat.add_zero, Nat.zero_add, Nat.reduceLT, Nat.reduceLeDiff, Nat.reduceAdd, Nat.reduceSub, Nat.reduceMul, Nat.reduceDiv, Nat.lt_irrefl, Nat.not_lt_zero, Nat.zero_le, Nat.one_ne_zero, Nat.succ_ne_zero,  lt_def, i32_lit, reduceIte, P_isIn_eq, M_isIn_eq, M_goes_eq, or_false, false_or, or_true, true_or, and_true, true_and, and_false, false_and, not_true, not_false_eq_true, eq_self, if_true, if_false, not_or, not_and, Nat.not_lt, Nat.not_le, d1, a10, a14, a15, d6, d7, io_le, n1, n2, ix_io, b1, b2, io_lt, q1, q2, io_eq]
    · rw [es, decide_eq_false hc, Bool.false_or, ← ihh]
      rcases (by omega : th < (us x)[i].1 ∨ (us x)[i].2 < th) with q1 | q1
      · simp (disch := omega) only [f_Rule_isSilentIn_b2, Option.bind_some, Nat.reduceEqDiff, Nat.add_zero, Nat.zero_add, Nat.reduceLT, Nat.reduceLeDiff, Nat.reduceAdd, Nat.reduceSub, Nat.reduceMul, Nat.reduceDiv, Nat.lt_irrefl, Nat.not_lt_zero, Nat.zero_le, Nat.one_ne_zero, Nat.succ_ne_zero,  lt_def, i32_lit, reduceIte, P_isIn_eq, M_isIn_eq, M_goes_eq, or_false, false_or, or_true, true_or, and_true, true_and, and_false, false_and, not_true, not_false_eq_true, eq_self, if_true, if_false, not_or, not_and, Nat.not_lt, Nat.not_le, d1, a10, a14, a15, d6, d7, io_le, n1, n2, ix_io, b1, b2, io_lt, q1, io_eq, io_add]
      · simp (disch := omega) only [f_Rule_isSilentIn_b2, Option.bind_some, Nat.reduceEqDiff, Nat.add_zero, Nat.zero_add, Nat.reduceLT, Nat.reduceLeDiff, Nat.reduceAdd, Nat.reduceSub, Nat.reduceMul, Nat.reduceDiv, Nat.lt_irrefl, Nat.not_lt_zero, Nat.zero_le, Nat.one_ne_zero, Nat.succ_ne_zero,  lt_def, i32_lit, reduceIte, P_isIn_eq, M_isIn_eq, M_goes_eq, or_false, false_or, or_true, true_or, and_true, true_and, and_false, false_and, not_true, not_false_eq_true, eq_self, if_true, if_false, not_or, not_and, Nat.not_lt, Nat.not_le, d1, a10, a14, a15, d6, d7, io_le, n1, n2, ix_io, b1, b2, io_lt, q1, io_eq, io_add]
theorem P_isDue {F h m th l : Nat} (hF : 5000 ≤ F) {s : St} {L : Nat → LR} {x : RU} (LC : LGc s L m) (LG : LGg L m h) (hh : h ≤ 1000) (X : RC1 s x) (hw : 1 ≤ uw x ∧ uw x ≤ 72) (hr : ur x ≤ 72) (hs : (us x).length ≤ 5) (hb : ∀ e ∈ us x, e.1 ≤ e.2 ∧ e.2 ≤ 1000) (h1 : 1 ≤ th) (hth : th ≤ 1000) (hl : l ≤ th) (TT : ∃ vs, TLw s vs) :
    ∃ s', f_P_isDue F s (some (uq x)) (io th) (dn l) = some (if dueB L m x th l then io 1 else io 0, s') ∧ Fr EID EAD s s' ∧ ∃ vs, TLw s' vs := by
  obtain ⟨o, nq, d1, k1, k2, k3, k4, k5, k8, k9, k10, k0, k6, k7, kT, kD⟩ := X.dg
  have hsl := silent_loop (F := F) X hs hb hth (us x).length F 0 (by omega) (by omega)
  rw [List.drop_zero] at hsl
  have hrest : f_Rule_hasRested F s (some (uq x)) (io th) (dn l) = some (if l = 0 ∨ ur x + (l - 1) < th then io 1 else io 0, s) := by
    by_cases hl0 : l = 0
    · have e : dn l = -io 1 := by rw [hl0]; rfl
      rw [if_pos (Or.inl hl0), e]
      simp (disch := omega) only [f_Rule_hasRested, Option.bind_some, Nat.reduceEqDiff, Nat.add_zero, Nat.zero_add, Nat.reduceLT, Nat.reduceLeDiff, Nat.reduceAdd, Nat.reduceSub, Nat.reduceMul, Nat.reduceDiv, Nat.lt_irrefl, Nat.not_lt_zero, Nat.zero_le, Nat.one_ne_zero, Nat.succ_ne_zero,  lt_def, i32_lit, reduceIte, P_isIn_eq, M_isIn_eq, M_goes_eq, or_false, false_or, or_true, true_or, and_true, true_and, and_false, false_and, not_true, not_false_eq_true, eq_self, if_true, if_false, not_or, not_and, Nat.not_lt, Nat.not_le]
    · rw [dn_pos (by omega)]
      by_cases hc : ur x + (l - 1) < th
      · have n1 : ¬ th - (l - 1) ≤ ur x := by omega
        rw [if_pos (Or.inr hc)]
        simp (disch := omega) only [f_Rule_hasRested, Option.bind_some, Nat.reduceEqDiff, Nat.add_zero, Nat.zero_add, Nat.reduceLT, Nat.reduceLeDiff, Nat.reduceAdd, Nat.reduceSub, Nat.reduceMul, Nat.reduceDiv, Nat.lt_irrefl, Nat.not_lt_zero, Nat.zero_le, Nat.one_ne_zero, Nat.succ_ne_zero,  lt_def, i32_lit, reduceIte, P_isIn_eq, M_isIn_eq, M_goes_eq, or_false, false_or, or_true, true_or, and_true, true_and, and_false, false_and, not_true, not_false_eq_true, eq_self, if_true, if_false, not_or, not_and, Nat.not_lt, Nat.not_le, io_neg1, d1, k3, io_sub, io_le, n1]
      · have n1 : th - (l - 1) ≤ ur x := by omega
        rw [if_neg (by omega)]
        simp (disch := omega) only [f_Rule_hasRested, Option.bind_some, Nat.reduceEqDiff, Nat.add_zero, Nat.zero_add, Nat.reduceLT, Nat.reduceLeDiff, Nat.reduceAdd, Nat.reduceSub, Nat.reduceMul, Nat.reduceDiv, Nat.lt_irrefl, Nat.not_lt_zero, Nat.zero_le, Nat.one_ne_zero, Nat.succ_ne_zero,  lt_def, i32_lit, reduceIte, P_isIn_eq, M_isIn_eq, M_goes_eq, or_false, false_or, or_true, true_or, and_true, true_and, and_false, false_and, not_true, not_false_eq_true, eq_self, if_true, if_false, not_or, not_and, Nat.not_lt, Nat.not_le, io_neg1, d1, k3, io_sub, io_le, n1]
  unfold dueB
  by_cases hc : l = 0 ∨ ur x + (l - 1) < th
  · rw [if_pos hc] at hrest
    rw [decide_eq_true hc, Bool.true_and]
    by_cases hsil : silB (us x) th = true
    · rw [if_pos hsil] at hsl
      rw [hsil]
      refine ⟨s, ?_, Fr.rf, TT⟩
      simp (disch := omega) only [f_P_isDue, f_Rule_isSilentIn, Option.bind_some, Nat.reduceEqDiff, Nat.add_zero, Nat.zero_add, Nat.reduceLT, Nat.reduceLeDiff, Nat.reduceAdd, Nat.reduceSub, Nat.reduceMul, Nat.reduceDiv, Nat.lt_irrefl, Nat.not_lt_zero, Nat.zero_le, Nat.one_ne_zero, Nat.succ_ne_zero,  lt_def, i32_lit, reduceIte, P_isIn_eq, M_isIn_eq, M_goes_eq, or_false, false_or, or_true, true_or, and_true, true_and, and_false, false_and, not_true, not_false_eq_true, eq_self, if_true, if_false, not_or, not_and, Nat.not_lt, Nat.not_le, d1, hrest, io_eq, hsl, Bool.not_true, Bool.false_and, reduceCtorEq]
    · rw [if_neg hsil] at hsl
      have hsf : silB (us x) th = false := by simpa using hsil
      rw [hsf]
      obtain ⟨s1, e1, e2, e3⟩ := pickW_eq (F := F) (th := th) (tb := th - 1) hF LC LG hh X hw hth (by omega)
      obtain ⟨o', nq', d1', -, -, -, -, -, -, -, -, k0', -, -, kT', -⟩ := (X.de e3.de).dg
      obtain ⟨vs, TV⟩ := TT
      obtain ⟨s2, w1, w2, w3⟩ := walk_eq (F := F) hF (Nat.le_refl 40) kT' e2 ⟨vs, TLw.fr TV e3⟩
      refine ⟨s2, ?_, (e3.wide (by decide) (by decide)).trans (w2.1.wide (by decide) (by decide)), w3⟩
      generalize valQ (ev L (pks L m (th + 1 - uw x) th (th - 1))) (uc x) = v at w1
      by_cases hv : v = 0
      · rw [hv] at w1
        have e0 : decide (v ≠ 0) = false := by rw [hv]; decide
        rw [e0]
        simp (disch := omega) only [f_P_isDue, f_Rule_isSilentIn, Option.bind_some, Nat.reduceEqDiff, Nat.add_zero, Nat.zero_add, Nat.reduceLT, Nat.reduceLeDiff, Nat.reduceAdd, Nat.reduceSub, Nat.reduceMul, Nat.reduceDiv, Nat.lt_irrefl, Nat.not_lt_zero, Nat.zero_le, Nat.one_ne_zero, Nat.succ_ne_zero,  lt_def, i32_lit, reduceIte, P_isIn_eq, M_isIn_eq, M_goes_eq, or_false, false_or, or_true, true_or, and_true, true_and, and_false, false_and, not_true, not_false_eq_true, eq_self, if_true, if_false, not_or, not_and, Nat.not_lt, Nat.not_le, d1, hrest, io_eq, hsl, io_sub, e1, d1', k0', w1, Bool.and_false, reduceCtorEq]
      · have e0 : decide (v ≠ 0) = true := decide_eq_true hv
        rw [e0]
        simp (disch := omega) only [f_P_isDue, f_Rule_isSilentIn, Option.bind_some, Nat.reduceEqDiff, Nat.add_zero, Nat.zero_add, Nat.reduceLT, Nat.reduceLeDiff, Nat.reduceAdd, Nat.reduceSub, Nat.reduceMul, Nat.reduceDiv, Nat.lt_irrefl, Nat.not_lt_zero, Nat.zero_le, Nat.one_ne_zero, Nat.succ_ne_zero,  lt_def, i32_lit, reduceIte, P_isIn_eq, M_isIn_eq, M_goes_eq, or_false, false_or, or_true, true_or, and_true, true_and, and_false, false_and, not_true, not_false_eq_true, eq_self, if_true, if_false, not_or, not_and, Nat.not_lt, Nat.not_le, d1, hrest, io_eq, hsl, io_sub, e1, d1', k0', w1, hv, Bool.not_false, Bool.true_and, reduceCtorEq]
  · rw [if_neg hc] at hrest
    rw [decide_eq_false hc, Bool.false_and]
    refine ⟨s, ?_, Fr.rf, TT⟩
    simp (disch := omega) only [f_P_isDue, Option.bind_some, Nat.reduceEqDiff, Nat.add_zero, Nat.zero_add, Nat.reduceLT, Nat.reduceLeDiff, Nat.reduceAdd, Nat.reduceSub, Nat.reduceMul, Nat.reduceDiv, Nat.lt_irrefl, Nat.not_lt_zero, Nat.zero_le, Nat.one_ne_zero, Nat.succ_ne_zero,  lt_def, i32_lit, reduceIte, P_isIn_eq, M_isIn_eq, M_goes_eq, or_false, false_or, or_true, true_or, and_true, true_and, and_false, false_and, not_true, not_false_eq_true, eq_self, if_true, if_false, not_or, not_and, Nat.not_lt, Nat.not_le, d1, hrest, io_eq, reduceCtorEq]
theorem rcn_le {L : Nat → LR} {m : Nat} {x : RU} : ∀ k, (rcn L m x k).1 ≤ k ∧ ((rcn L m x k).2 = 0 ∨ (rcn L m x k).2 ≤ um x + k + 1) ∧ ((rcn L m x k).1 = 0 ↔ (rcn L m x k).2 = 0) := by
  intro k
  induction k with
  | zero => exact ⟨Nat.le_refl _, Or.inl rfl, ⟨fun _ => rfl, fun _ => rfl⟩⟩
  | succ k ih =>
    have e : rcn L m x (k + 1) = if dueB L m x (um x + k + 1) (rcn L m x k).2 = true then ((rcn L m x k).1 + 1, um x + k + 2) else rcn L m x k := rfl
    rw [e]
    by_cases hd : dueB L m x (um x + k + 1) (rcn L m x k).2 = true
    · rw [if_pos hd]
      dsimp only
      omega
    · rw [if_neg hd]
      omega
theorem rcn_l {L : Nat → LR} {m : Nat} {x : RU} (k : Nat) : (rcn L m x k).2 ≤ um x + k + 1 := by
  have := (rcn_le (L := L) (m := m) (x := x) k).2.1
  omega
theorem anew_loop {F Z h m e : Nat} (hF : 5000 ≤ F) {s0 : St} {L : Nat → LR} {x : RU} (LC : LGc s0 L m) (LG : LGg L m h) (hh : h ≤ 1000) (X : RC1 s0 x) (hw : 1 ≤ uw x ∧ uw x ≤ 72) (hr : ur x ≤ 72) (hs : (us x).length ≤ 5) (hb : ∀ e ∈ us x, e.1 ≤ e.2 ∧ e.2 ≤ 1000) (he : um x ≤ e) (he2 : e ≤ 1000) : ∀ k n i s, i + k = e - um x → k < n → Fr EID EAD s0 s → (∃ vs, TLw s vs) →
    ∃ s', f_P_risesAnew_b53 F Z n s (some (uq x)) (io e) (io (rcn L m x i).1) (dn (rcn L m x i).2) (io (um x + i + 1)) = some (.inl (io (rcn L m x (e - um x)).1), s') ∧ Fr EID EAD s0 s' ∧ ∃ vs, TLw s' vs := by
  intro k
  induction k with
  | zero =>
    intro n i s hi hn f TT
    obtain ⟨n, rfl⟩ : ∃ n', n = n' + 1 := ⟨n - 1, by omega⟩
    have hi' : i = e - um x := by omega
    subst hi'
    refine ⟨s, ?_, f, TT⟩
    have q1 : e < um x + (e - um x) + 1 := by omega
    simp (disch := omega) only [f_P_risesAnew_b53, Option.bind_some, Nat.reduceEqDiff, Nat.add_zero, Nat.zero_add, Nat.reduceLT, Nat.reduceLeDiff, Nat.reduceAdd, Nat.reduceSub, Nat.reduceMul, Nat.reduceDiv, Nat.lt_irrefl, Nat.not_lt_zero, Nat.zero_le, Nat.one_ne_zero, Nat.succ_ne_zero,  lt_def, i32_lit, reduceIte, P_isIn_eq, M_isIn_eq, M_goes_eq, or_false, false_or, or_true, true_or, and_true, true_and, and_false, false_and, not_true, not_false_eq_true, eq_self, if_true, if_false, not_or, not_and, Nat.not_lt, Nat.not_le, io_lt, q1]
  | succ k ih =>
    intro n i s hi hn f TT
    obtain ⟨n, rfl⟩ : ∃ n', n = n' + 1 := ⟨n - 1, by omega⟩
    have q1 : ¬ e < um x + i + 1 := by omega
    have hl := rcn_l (L := L) (m := m) (x := x) i
    have hle := (rcn_le (L := L) (m := m) (x := x) i).1
    obtain ⟨s1, e1, f1, T1⟩ := P_isDue (F := F) (th := um x + i + 1) hF (LC.fr f) LG hh (X.de f.de) hw hr hs hb (by omega) (by omega) hl TT
    obtain ⟨s2, e2, f2, T2⟩ := ih n (i + 1) s1 (by omega) (by omega) (f.trans f1) T1
    refine ⟨s2, ?_, f2, T2⟩
    have er : rcn L m x (i + 1) = if dueB L m x (um x + i + 1) (rcn L m x i).2 = true then ((rcn L m x i).1 + 1, um x + i + 2) else rcn L m x i := rfl
    rw [er] at e2
    generalize rcn L m x (e - um x) = Q at e2 ⊢
    generalize hP : rcn L m x i = P at *
    by_cases hd : dueB L m x (um x + i + 1) P.2 = true
    · rw [if_pos hd] at e1 e2
      have e2' : f_P_risesAnew_b53 F Z n s1 (some (uq x)) (io e) (io (P.1 + 1)) (io (um x + i + 1)) (io (um x + i + 1 + 1)) = some (.inl (io Q.1), s2) := by
        rw [← e2, dn_pos (show 1 ≤ (P.1 + 1, um x + i + 2).2 by show 1 ≤ um x + i + 2; omega)]
        rfl
      simp (disch := omega) only [f_P_risesAnew_b53, Option.bind_some, Nat.reduceEqDiff, Nat.add_zero, Nat.zero_add, Nat.reduceLT, Nat.reduceLeDiff, Nat.reduceAdd, Nat.reduceSub, Nat.reduceMul, Nat.reduceDiv, Nat.lt_irrefl, Nat.not_lt_zero, Nat.zero_le, Nat.one_ne_zero, Nat.succ_ne_zero,  lt_def, i32_lit, reduceIte, P_isIn_eq, M_isIn_eq, M_goes_eq, or_false, false_or, or_true, true_or, and_true, true_and, and_false, false_and, not_true, not_false_eq_true, eq_self, if_true, if_false, not_or, not_and, Nat.not_lt, Nat.not_le, io_lt, q1, e1, io_eq, io_add, e2']
    · rw [if_neg hd] at e1 e2
      have e2' : f_P_risesAnew_b53 F Z n s1 (some (uq x)) (io e) (io P.1) (dn P.2) (io (um x + i + 1 + 1)) = some (.inl (io Q.1), s2) := e2
      simp (disch := omega) only [f_P_risesAnew_b53, Option.bind_some, Nat.reduceEqDiff, Nat.add_zero, Nat.zero_add, Nat.reduceLT, Nat.reduceLeDiff, Nat.reduceAdd, Nat.reduceSub, Nat.reduceMul, Nat.reduceDiv, Nat.lt_irrefl, Nat.not_lt_zero, Nat.zero_le, Nat.one_ne_zero, Nat.succ_ne_zero,  lt_def, i32_lit, reduceIte, P_isIn_eq, M_isIn_eq, M_goes_eq, or_false, false_or, or_true, true_or, and_true, true_and, and_false, false_and, not_true, not_false_eq_true, eq_self, if_true, if_false, not_or, not_and, Nat.not_lt, Nat.not_le, io_lt, q1, e1, io_eq, io_add, e2']
theorem op_risesAnew {F R n h m : Nat} (hF : 5000 ≤ F) {s : St} {u : Nat → RU} {L : Nat → LR} (H : HH s h) (C : RUc s u R) (G : RUg u R h n) (LC : LGc s L m) (LG : LGg L m h) (hS : HS L m u R h) (S : RST s u R) (x : Int32) :
    ∃ k s1, f_L_risesAnew F s x = some (k, s1) ∧ ∀ N, sz s1 ≤ N → ∃ b s2, f_M_risesAnew F (sz' s1 N) x = some (b, s2) ∧ gI s2 2551 = k ∧ (k = 0 → gJ s2 70 0 = b.toInt64) ∧ FX EI9 EA9 s s2 ∧ RST s2 u R := by
  have hz := szlt s
  have hh := H.1
  have hR := G.1
  by_cases hx : ∃ r, r < R ∧ x = io r
  · obtain ⟨r, hr, rfl⟩ := hx
    obtain ⟨g1, g2, g3, g4, g5, g6, g7, g8, g9, g10, g11, g12, g13⟩ := G.2.1 r hr
    obtain ⟨S1, TT, ⟨v2, S3⟩, f0, hf0, hf1⟩ := S
    have hend : um (u r) ≤ uend (u r) h ∧ uend (u r) h ≤ 1000 := by
      unfold uend
      by_cases e : ud (u r) = 0
      · rw [if_pos e]; omega
      · rw [if_neg e]; omega
    obtain ⟨s1, e1, f1, T1⟩ := anew_loop (F := F) (Z := sz s + 64) hF LC LG hh (C.2 r hr).2 ⟨g4, g5⟩ g6 g9 g10 hend.1 hend.2 (uend (u r) h - um (u r)) F 0 s (by omega) (by omega) Fr.rf TT
    rw [hS r hr] at e1
    have e1' : f_P_risesAnew_b53 F (sz s + 64) F s (some (uq (u r))) (io (uend (u r) h)) (io 0) (-io 1) (io (um (u r) + 1)) = some (.inl (io (un (u r))), s1) := e1
    obtain ⟨o, nq, d1, k1, k2, k3, k4, k5, k8, k9, k10, k0, k6, k7, kT, kD⟩ := (C.2 r hr).2.dg
    have hne : ¬ some (uq (u r)) = none := by simp
    refine ⟨io 0, sJ s1 70 0 (io (un (u r))).toInt64, ?_, fun N hN => ?_⟩
    · by_cases e : ud (u r) = 0
      · have e5 : o.1 5 = -io 1 := by rw [k5, e]; rfl
        have eu : uend (u r) h = h := if_pos e
        rw [eu] at e1'
        simp (disch := omega) only [f_L_risesAnew, f_P_risesAnew, f_Rule_isDropped, Option.bind_some, Nat.reduceEqDiff, Nat.add_zero, Nat.zero_add, Nat.reduceLT, Nat.reduceLeDiff, Nat.reduceAdd, Nat.reduceSub, Nat.reduceMul, Nat.reduceDiv, Nat.lt_irrefl, Nat.not_lt_zero, Nat.zero_le, Nat.one_ne_zero, Nat.succ_ne_zero,  lt_def, i32_lit, reduceIte, P_isIn_eq, M_isIn_eq, M_goes_eq, or_false, false_or, or_true, true_or, and_true, true_and, and_false, false_and, not_true, not_false_eq_true, eq_self, if_true, if_false, not_or, not_and, Nat.not_lt, Nat.not_le, ruleAt_t C hR hr, hne, d1, e5, H.2.1, k4, io_add, e1', io_eq]
      · have e5 : o.1 5 = io (ud (u r) - 1) := by rw [k5]; exact dn_pos (by omega)
        have eu : uend (u r) h = ud (u r) - 1 := if_neg e
        rw [eu] at e1'
        simp (disch := omega) only [f_L_risesAnew, f_P_risesAnew, f_Rule_isDropped, Option.bind_some, Nat.reduceEqDiff, Nat.add_zero, Nat.zero_add, Nat.reduceLT, Nat.reduceLeDiff, Nat.reduceAdd, Nat.reduceSub, Nat.reduceMul, Nat.reduceDiv, Nat.lt_irrefl, Nat.not_lt_zero, Nat.zero_le, Nat.one_ne_zero, Nat.succ_ne_zero,  lt_def, i32_lit, reduceIte, P_isIn_eq, M_isIn_eq, M_goes_eq, or_false, false_or, or_true, true_or, and_true, true_and, and_false, false_and, not_true, not_false_eq_true, eq_self, if_true, if_false, not_or, not_and, Nat.not_lt, Nat.not_le, ruleAt_t C hR hr, hne, d1, e5, H.2.1, k4, io_add, e1', io_eq, io_neg1]
    · have fz : Fr EID EAD s (sz' (sJ s1 70 0 (io (un (u r))).toInt64) N) := (f1.J).Z hN
      have f2 : Fr [2551] [] (sz' (sJ s1 70 0 (io (un (u r))).toInt64) N) (sI (sz' (sJ s1 70 0 (io (un (u r))).toInt64) N) 2551 (io 0)) := Fr.rf.I (by decide)
      have Mz := (S1.fr fz).fr f2
      refine ⟨io (un (u r)), sI (sz' (sJ s1 70 0 (io (un (u r))).toInt64) N) 2551 (io 0), ?_, by rw [gI_sI, if_pos rfl], fun _ => by rw [gJ_sI, gJ_sz, gJ_sJ, if_pos rfl, if_pos rfl], Fr.fx ((fz.wide (by decide) (by decide)).trans (f2.wide (by decide) (by decide))), Mz, ?_, ⟨v2, (TLr.fr S3 fz).fr f2⟩, f0, hf0, ?_⟩
      · have e64 : gA (sz' (sJ s1 70 0 (io (un (u r))).toInt64) N) 64 r = io (un (u r)) := ((S1.fr fz).2.1 r hr).2.2.2.2.1
        have hir := isRule_t (F := F) (S1.fr fz).1 hR hr
        simp (disch := omega) only [f_M_risesAnew, Option.bind_some, Nat.reduceEqDiff, Nat.add_zero, Nat.zero_add, Nat.reduceLT, Nat.reduceLeDiff, Nat.reduceAdd, Nat.reduceSub, Nat.reduceMul, Nat.reduceDiv, Nat.lt_irrefl, Nat.not_lt_zero, Nat.zero_le, Nat.one_ne_zero, Nat.succ_ne_zero,  lt_def, i32_lit, reduceIte, P_isIn_eq, M_isIn_eq, M_goes_eq, or_false, false_or, or_true, true_or, and_true, true_and, and_false, false_and, not_true, not_false_eq_true, eq_self, if_true, if_false, not_or, not_and, Nat.not_lt, Nat.not_le, hir, io_eq, ix_io, gA_sI, e64]
      · obtain ⟨vs, T1⟩ := T1
        have f3 : Fr [2551] [] s1 (sI (sz' (sJ s1 70 0 (io (un (u r))).toInt64) N) 2551 (io 0)) := ((Fr.rf.J).Z hN).I (by decide)
        exact ⟨vs, TLw.fr T1 f3⟩
      · rw [f2.gi 2511 (by decide), fz.gi 2511 (by decide)]; exact hf1
  · refine ⟨io 1, s, ?_, fun N hN => ?_⟩
    · simp (disch := omega) only [f_L_risesAnew, f_P_risesAnew, Option.bind_some, Nat.reduceEqDiff, Nat.add_zero, Nat.zero_add, Nat.reduceLT, Nat.reduceLeDiff, Nat.reduceAdd, Nat.reduceSub, Nat.reduceMul, Nat.reduceDiv, Nat.lt_irrefl, Nat.not_lt_zero, Nat.zero_le, Nat.one_ne_zero, Nat.succ_ne_zero,  lt_def, i32_lit, reduceIte, P_isIn_eq, M_isIn_eq, M_goes_eq, or_false, false_or, or_true, true_or, and_true, true_and, and_false, false_and, not_true, not_false_eq_true, eq_self, if_true, if_false, not_or, not_and, Nat.not_lt, Nat.not_le, ruleAt_f C hR hx, hz]
    · have fz : Fr [] [] s (sz' s N) := Fr.rf.Z hN
      have f2 : Fr [2551] [] s (sI (sz' s N) 2551 (io 1)) := (Fr.rf.Z hN).I (by decide)
      refine ⟨io 0, sI (sz' s N) 2551 (io 1), ?_, by rw [gI_sI, if_pos rfl], fun h => absurd h (by decide), Fr.fx (f2.wide (by decide) (by decide)), S.fx f2.fx⟩
      have hir := isRule_f (F := F) (s := sz' s N) S.1.1 hR hx
      simp (disch := omega) only [f_M_risesAnew, Option.bind_some, Nat.reduceEqDiff, Nat.add_zero, Nat.zero_add, Nat.reduceLT, Nat.reduceLeDiff, Nat.reduceAdd, Nat.reduceSub, Nat.reduceMul, Nat.reduceDiv, Nat.lt_irrefl, Nat.not_lt_zero, Nat.zero_le, Nat.one_ne_zero, Nat.succ_ne_zero,  lt_def, i32_lit, reduceIte, P_isIn_eq, M_isIn_eq, M_goes_eq, or_false, false_or, or_true, true_or, and_true, true_and, and_false, false_and, not_true, not_false_eq_true, eq_self, if_true, if_false, not_or, not_and, Nat.not_lt, Nat.not_le, hir, io_eq]
