/-! questions asked, by both -/
def EIm : List Nat := 2551 :: 2522 :: 2524 :: 2525 :: ET
def EAm : List Nat := [41, 42, 43, 44, 45, 46, 47, 48, 49, 51]
theorem M_asked {F h n m a b : Nat} {t : Nat → Nat} (hF : 5000 ≤ F) {s : St} {L : Nat → LR} (H : HH s h) (T : TXT t n) (M1 : MT t n s) (LM : LGm s L m) (LG : LGg L m h) (hf : ∃ f0, f0 < 128 ∧ gI s 2511 = io f0) (hab : a ≤ b) (hb : b ≤ h) :
    ∃ v s2, f_M_asked F s (io a) (io b) = some (v, s2) ∧ Fr EIm EAm s s2 ∧ gJ s2 70 = gJ s 70 ∧ (∃ f0, f0 < 128 ∧ gI s2 2511 = io f0) ∧ (∀ u R, R ≤ 4 → (∀ r, r < R → (uc (u r)).length ≤ 40) → RUm s u R → RUm s2 u R) ∧ (ques t n = none → gI s2 2551 = io 2) ∧ ∀ c, ques t n = some c → gI s2 2551 = io 0 ∧ v = valQ (ev L (pks L m a b h)) c := by
  have hh := H.1
  have n1 : ¬ h < a := by omega
  have n2 : ¬ b < a := by omega
  have n3 : ¬ h < b := by omega
  have e0 : f_M_asked F s (io a) (io b) = f_M_asked_b30 F s (io a) (io b) (io 0) := by
    simp (disch := omega) only [f_M_asked, Option.bind_some, Nat.reduceEqDiff, Nat.add_zero, Nat.zero_add, Nat.reduceLT, Nat.reduceLeDiff, Nat.reduceAdd, Nat.reduceSub, Nat.reduceMul, Nat.reduceDiv, Nat.lt_irrefl, Nat.not_lt_zero, Nat.zero_le, Nat.one_ne_zero, Nat.succ_ne_zero,  lt_def, i32_lit, reduceIte, P_isIn_eq, M_isIn_eq, M_goes_eq, or_false, false_or, or_true, true_or, and_true, true_and, and_false, false_and, not_true, not_false_eq_true, eq_self, if_true, if_false, not_or, not_and, Nat.not_lt, Nat.not_le, H.2.2, io_lt, n1, n2, n3, io_eq]
  have fr0 : Fr EIm EAm s (sI s 2551 (io 0)) := Fr.rf.I (by decide)
  obtain ⟨r, s1, b1, b2, b3, b4, b5⟩ := turns_eq (F := F) (p := 4) (s := sI s 2551 (io 0)) hF T (Nat.le_refl _) M1 hf
  have fr1 : Fr EIm EAm s s1 := fr0.trans (b2.1.wide (by decide) (by decide))
  have rum1 : ∀ u R, R ≤ 4 → (∀ r, r < R → (uc (u r)).length ≤ 40) → RUm s u R → RUm s1 u R := fun u R h1 h2 h3 => (RUm.fr (eI := [2551]) (eA := []) h3 (Fr.rf.I (by decide)) : RUm (sI s 2551 (io 0)) u R).fm h1 h2 b2
  rw [e0]
  cases hq : ques t n with
  | none =>
    have hr := b4 hq
    have hpe := perr_le T
    have hn := T.1
    refine ⟨0, sI s1 2551 (io 2), ?_, fr1.I (by decide), congrFun b2.2.1 70, b3, fun u R h1 h2 h3 => RUm.fr (eI := [2551]) (eA := []) (rum1 u R h1 h2 h3) (Fr.rf.I (by decide)), fun _ => rfl, fun c hc => by cases hc⟩
    simp (disch := omega) only [f_M_asked_b30, Option.bind_some, Nat.reduceEqDiff, Nat.add_zero, Nat.zero_add, Nat.reduceLT, Nat.reduceLeDiff, Nat.reduceAdd, Nat.reduceSub, Nat.reduceMul, Nat.reduceDiv, Nat.lt_irrefl, Nat.not_lt_zero, Nat.zero_le, Nat.one_ne_zero, Nat.succ_ne_zero,  lt_def, i32_lit, reduceIte, P_isIn_eq, M_isIn_eq, M_goes_eq, or_false, false_or, or_true, true_or, and_true, true_and, and_false, false_and, not_true, not_false_eq_true, eq_self, if_true, if_false, not_or, not_and, Nat.not_lt, Nat.not_le, io_eq, b1, hr, io_neg1]
  | some c =>
    obtain ⟨hr, hP⟩ := b5 c hq
    obtain ⟨o1, o2, -⟩ := ques_ok T hq
    have hn := T.1
    have fr2 : Fr EIm EAm s (sI s1 2551 (io 0)) := fr1.I (by decide)
    obtain ⟨s2, d1, d2, d3⟩ := runs_eq (F := F) (p := 4) (a0 := a) (b := b) (t := h) (x0 := io a) (s := sI s1 2551 (io 0)) hF (LM.fr fr2) LG hh (Nat.le_refl _) (by omega) (Nat.le_refl _) (fun r hr => io_lt (by omega) (by omega)) hP o1 (by omega)
    refine ⟨_, s2, ?_, fr2.trans (d2.wide (by decide) (by decide)), (d3 70 (by decide)).trans (congrFun b2.2.1 70), ?_, fun u R h1 h2 h3 => RUm.fr (RUm.fr (eI := [2551]) (eA := []) (rum1 u R h1 h2 h3) (Fr.rf.I (by decide)) : RUm (sI s1 2551 (io 0)) u R) d2, (fun h => by cases h), fun c' hc' => ⟨by rw [d2.gi 2551 (by decide)]; rfl, by cases hc'; rfl⟩⟩
    · simp (disch := omega) only [f_M_asked_b30, Option.bind_some, Nat.reduceEqDiff, Nat.add_zero, Nat.zero_add, Nat.reduceLT, Nat.reduceLeDiff, Nat.reduceAdd, Nat.reduceSub, Nat.reduceMul, Nat.reduceDiv, Nat.lt_irrefl, Nat.not_lt_zero, Nat.zero_le, Nat.one_ne_zero, Nat.succ_ne_zero,  lt_def, i32_lit, reduceIte, P_isIn_eq, M_isIn_eq, M_goes_eq, or_false, false_or, or_true, true_or, and_true, true_and, and_false, false_and, not_true, not_false_eq_true, eq_self, if_true, if_false, not_or, not_and, Nat.not_lt, Nat.not_le, io_eq, b1, hr, d1]
    · obtain ⟨f0, h1, h2⟩ := b3
      exact ⟨f0, h1, by rw [d2.gi 2511 (by decide)]; exact h2⟩
theorem isRange_bad {F h : Nat} {s : St} {a b : Int32} (hab : (a < io 0 ∨ io h < a) ∨ (¬ (a < io 0 ∨ io h < a) ∧ (b < a ∨ io h < b))) : f_P_isRange F s a b (io 0) (io h) = some (io 0, s) := by
  rcases hab with h1 | ⟨h1, h2⟩
  · simp (disch := omega) only [f_P_isRange, Option.bind_some, Nat.reduceEqDiff, Nat.add_zero, Nat.zero_add, Nat.reduceLT, Nat.reduceLeDiff, Nat.reduceAdd, Nat.reduceSub, Nat.reduceMul, Nat.reduceDiv, Nat.lt_irrefl, Nat.not_lt_zero, Nat.zero_le, Nat.one_ne_zero, Nat.succ_ne_zero,  lt_def, i32_lit, reduceIte, P_isIn_eq, M_isIn_eq, M_goes_eq, or_false, false_or, or_true, true_or, and_true, true_and, and_false, false_and, not_true, not_false_eq_true, eq_self, if_true, if_false, not_or, not_and, Nat.not_lt, Nat.not_le, h1]
  · simp (disch := omega) only [f_P_isRange, Option.bind_some, Nat.reduceEqDiff, Nat.add_zero, Nat.zero_add, Nat.reduceLT, Nat.reduceLeDiff, Nat.reduceAdd, Nat.reduceSub, Nat.reduceMul, Nat.reduceDiv, Nat.lt_irrefl, Nat.not_lt_zero, Nat.zero_le, Nat.one_ne_zero, Nat.succ_ne_zero,  lt_def, i32_lit, reduceIte, P_isIn_eq, M_isIn_eq, M_goes_eq, or_false, false_or, or_true, true_or, and_true, true_and, and_false, false_and, not_true, not_false_eq_true, eq_self, if_true, if_false, not_or, not_and, Nat.not_lt, Nat.not_le, h1, h2, io_eq]
theorem asked_bad {F h : Nat} {s : St} {a b : Int32} (H : HH s h) (hab : (a < io 0 ∨ io h < a) ∨ (¬ (a < io 0 ∨ io h < a) ∧ (b < a ∨ io h < b))) : f_M_asked F s a b = some (0, sI s 2551 (io 1)) := by
  have e2 := H.2.2
  rcases hab with h1 | ⟨h1, h2⟩
  · simp (disch := omega) only [f_M_asked, f_M_asked_b30, Option.bind_some, Nat.reduceEqDiff, Nat.add_zero, Nat.zero_add, Nat.reduceLT, Nat.reduceLeDiff, Nat.reduceAdd, Nat.reduceSub, Nat.reduceMul, Nat.reduceDiv, Nat.lt_irrefl, Nat.not_lt_zero, Nat.zero_le, Nat.one_ne_zero, Nat.succ_ne_zero,  lt_def, i32_lit, reduceIte, P_isIn_eq, M_isIn_eq, M_goes_eq, or_false, false_or, or_true, true_or, and_true, true_and, and_false, false_and, not_true, not_false_eq_true, eq_self, if_true, if_false, not_or, not_and, Nat.not_lt, Nat.not_le, e2, h1, io_eq]
  · simp (disch := omega) only [f_M_asked, f_M_asked_b30, Option.bind_some, Nat.reduceEqDiff, Nat.add_zero, Nat.zero_add, Nat.reduceLT, Nat.reduceLeDiff, Nat.reduceAdd, Nat.reduceSub, Nat.reduceMul, Nat.reduceDiv, Nat.lt_irrefl, Nat.not_lt_zero, Nat.zero_le, Nat.one_ne_zero, Nat.succ_ne_zero,  lt_def, i32_lit, reduceIte, P_isIn_eq, M_isIn_eq, M_goes_eq, or_false, false_or, or_true, true_or, and_true, true_and, and_false, false_and, not_true, not_false_eq_true, eq_self, if_true, if_false, not_or, not_and, Nat.not_lt, Nat.not_le, e2, h1, h2, io_eq]
theorem ask_cases {a b : Int32} {h : Nat} (hh : h ≤ 1000) : ((a < io 0 ∨ io h < a) ∨ (¬ (a < io 0 ∨ io h < a) ∧ (b < a ∨ io h < b))) ∨ ∃ a' b', a = io a' ∧ b = io b' ∧ a' ≤ b' ∧ b' ≤ h := by
  rcases in_or (x := a) (a := io 0) (b := io h) with ⟨n1, r1, r1'⟩ | n1
  · rcases in_or (x := b) (a := a) (b := io h) with ⟨n2, r2, r2'⟩ | n2
    · obtain ⟨p, rfl, hp⟩ := io_in (by omega) r1 r1'
      have h3 : io 0 ≤ b := by
        rw [Int32.le_iff_toInt_le, io_toInt (by omega)] at r2 ⊢
        omega
      obtain ⟨q, rfl, hq⟩ := io_in (by omega) h3 r2'
      rw [io_le (by omega) (by omega)] at r2
      exact Or.inr ⟨p, q, rfl, rfl, r2, hq⟩
    · exact Or.inl (Or.inr ⟨n1, n2⟩)
  · exact Or.inl (Or.inl n1)
section ASK
variable {F R n h m : Nat} {s : St} {u : Nat → RU} {L : Nat → LR}
theorem RST.fx {eI eA : List Nat} {s' : St} (S : RST s u R) (f : FX eI eA s s') (d1 : 2536 ∉ eI := by decide) (d2 : ∀ k ∈ [59, 60, 61, 62, 63, 64, 65, 66, 67, 41, 42, 43, 44, 45], k ∉ eA := by decide) (d3 : 1985 ∉ eI := by decide) (d4 : 32 ∉ eA := by decide) (d5 : 33 ∉ eA := by decide) (d6 : 2241 ∉ eI := by decide) (d7 : 36 ∉ eA := by decide) (d8 : 37 ∉ eA := by decide) (d9 : 2511 ∉ eI := by decide) : RST s' u R := by
  obtain ⟨S1, ⟨v1, S2⟩, ⟨v2, S3⟩, f0, h1, h2⟩ := S
  exact ⟨S1.fx f d1 d2, ⟨v1, TLw.fx S2 f d3 d4 d5⟩, ⟨v2, TLr.fx S3 f d6 d7 d8⟩, f0, h1, by rw [f.1 2511 d9]; exact h2⟩
/-- what both ways to ask share: the model's part behind the class's -/
theorem ask_M (hF : 5000 ≤ F) {t : Nat → Nat} {a b : Nat} {s1 : St} {c : List QT} (H : HH s h) (T : TXT t n) (M1 : MT t n s) (LM : LGm s L m) (LG : LGg L m h) (S : RST s1 u R) (hR : R ≤ 4) (hu : ∀ r, r < R → (uc (u r)).length ≤ 40) (hab : a ≤ b) (hb : b ≤ h) (hq : ques t n = some c) (f : FX EI9 EA9 s s1) :
    ∀ N, sz (sJ s1 70 0 (valQ (ev L (pks L m a b h)) c)) ≤ N → ∃ v s2, f_M_asked F (sz' (sJ s1 70 0 (valQ (ev L (pks L m a b h)) c)) N) (io a) (io b) = some (v, s2) ∧ gI s2 2551 = io 0 ∧ gJ s2 70 0 = v ∧ FX EI9 EA9 s s2 ∧ RST s2 u R := by
  intro N hN
  have f0 : Fr [] [] s1 (sz' (sJ s1 70 0 (valQ (ev L (pks L m a b h)) c)) N) := (Fr.rf.J).Z hN
  have f1 : FX EI9 EA9 s (sz' (sJ s1 70 0 (valQ (ev L (pks L m a b h)) c)) N) := f.trans (Fr.fx (f0.wide (by decide) (by decide)))
  have S1 : RST (sz' (sJ s1 70 0 (valQ (ev L (pks L m a b h)) c)) N) u R := S.fx f0.fx
  obtain ⟨v, s2, e1, e2, e3, e4, e5, -, e6⟩ := M_asked (F := F) hF (H.fx f1) T (M1.fx f1) (LM.fx f1) LG S1.2.2.2 hab hb
  obtain ⟨e7, e8⟩ := e6 c hq
  refine ⟨v, s2, e1, e7, ?_, f1.trans (Fr.fx (e2.wide (by decide) (by decide))), e5 u R hR hu S1.1, ?_, ?_, e4⟩
  · rw [e3, e8, gJ_sz, gJ_sJ, if_pos rfl, if_pos rfl]
  · obtain ⟨v1, S2⟩ := S1.2.1
    exact ⟨v1, TLw.fr S2 e2⟩
  · obtain ⟨v1, S2⟩ := S1.2.2.1
    exact ⟨v1, TLr.fr S2 e2⟩
/-- the same where the text is no question -/
theorem ask_M2 (hF : 5000 ≤ F) {t : Nat → Nat} {a b : Nat} {s1 : St} (H : HH s h) (T : TXT t n) (M1 : MT t n s) (LM : LGm s L m) (LG : LGg L m h) (S : RST s1 u R) (hR : R ≤ 4) (hu : ∀ r, r < R → (uc (u r)).length ≤ 40) (hab : a ≤ b) (hb : b ≤ h) (hq : ques t n = none) (f : FX EI9 EA9 s s1) :
    ∀ N, sz s1 ≤ N → ∃ v s2, f_M_asked F (sz' s1 N) (io a) (io b) = some (v, s2) ∧ gI s2 2551 = io 2 ∧ FX EI9 EA9 s s2 ∧ RST s2 u R := by
  intro N hN
  have f0 : Fr [] [] s1 (sz' s1 N) := Fr.rf.Z hN
  have f1 : FX EI9 EA9 s (sz' s1 N) := f.trans (Fr.fx (f0.wide (by decide) (by decide)))
  have S1 : RST (sz' s1 N) u R := S.fx f0.fx
  obtain ⟨v, s2, e1, e2, e3, e4, e5, e6, -⟩ := M_asked (F := F) hF (H.fx f1) T (M1.fx f1) (LM.fx f1) LG S1.2.2.2 hab hb
  refine ⟨v, s2, e1, e6 hq, f1.trans (Fr.fx (e2.wide (by decide) (by decide))), e5 u R hR hu S1.1, ?_, ?_, e4⟩
  · obtain ⟨v1, S2⟩ := S1.2.1
    exact ⟨v1, TLw.fr S2 e2⟩
  · obtain ⟨v1, S2⟩ := S1.2.2.1
    exact ⟨v1, TLr.fr S2 e2⟩
theorem op_ask (hF : 5000 ≤ F) (H : HH s h) (X : TX s n) (LC : LGc s L m) (LM : LGm s L m) (LG : LGg L m h) (S : RST s u R) (hR : R ≤ 4) (hu : ∀ r, r < R → (uc (u r)).length ≤ 40) (a b : Int32) :
    ∃ k s1, f_L_ask F s a b = some (k, s1) ∧ ∀ N, sz s1 ≤ N → ∃ v s2, f_M_ask F (sz' s1 N) a b = some (v, s2) ∧ gI s2 2551 = k ∧ (k = 0 → gJ s2 70 0 = v) ∧ FX EI9 EA9 s s2 ∧ RST s2 u R := by
  obtain ⟨t, T, X1, M1⟩ := X.txt
  have hn := T.1
  have hh := H.1
  have hz := szlt s
  have e1 : gI s 1 = io n := X.2.1
  rcases ask_cases (a := a) (b := b) hh with hbad | ⟨a, b, rfl, rfl, hab, hb⟩
  · refine ⟨io 1, s, ?_, fun N hN => ⟨0, sI (sz' s N) 2551 (io 1), ?_, rfl, fun h => absurd h (by decide), Fr.fx ((Fr.rf.Z hN).I (by decide)), S.fx (eI := [2551]) (eA := []) (Fr.fx ((Fr.rf.Z hN).I (by decide)))⟩⟩
    · have hr := isRange_bad (F := F) (s := s) hbad
      simp (disch := omega) only [f_L_ask, f_P_ask, Option.bind_some, Nat.reduceEqDiff, Nat.add_zero, Nat.zero_add, Nat.reduceLT, Nat.reduceLeDiff, Nat.reduceAdd, Nat.reduceSub, Nat.reduceMul, Nat.reduceDiv, Nat.lt_irrefl, Nat.not_lt_zero, Nat.zero_le, Nat.one_ne_zero, Nat.succ_ne_zero,  lt_def, i32_lit, reduceIte, P_isIn_eq, M_isIn_eq, M_goes_eq, or_false, false_or, or_true, true_or, and_true, true_and, and_false, false_and, not_true, not_false_eq_true, eq_self, if_true, if_false, not_or, not_and, Nat.not_lt, Nat.not_le, H.2.1, hr, hz]
    · have H' : HH (sz' s N) h := H
      have hr := asked_bad (F := F) H' hbad
      simp (disch := omega) only [f_M_ask, Option.bind_some, Nat.reduceEqDiff, Nat.add_zero, Nat.zero_add, Nat.reduceLT, Nat.reduceLeDiff, Nat.reduceAdd, Nat.reduceSub, Nat.reduceMul, Nat.reduceDiv, Nat.lt_irrefl, Nat.not_lt_zero, Nat.zero_le, Nat.one_ne_zero, Nat.succ_ne_zero,  lt_def, i32_lit, reduceIte, P_isIn_eq, M_isIn_eq, M_goes_eq, or_false, false_or, or_true, true_or, and_true, true_and, and_false, false_and, not_true, not_false_eq_true, eq_self, if_true, if_false, not_or, not_and, Nat.not_lt, Nat.not_le, hr]
  · have n1 : ¬ h < a := by omega
    have n2 : ¬ b < a := by omega
    have n3 : ¬ h < b := by omega
    obtain ⟨q', s1, a1, a2, a3, a4, a5, a6⟩ := read_eq (F := F) (Z := sz s + 64) hF T X1 (by omega)
    have f1 := a2.fx
    have hz1 : sz s1 ≤ sz s + 64 := by omega
    have hz2 : sz s1 < sz s + 64 := by omega
    cases hq : ques t n with
    | none =>
      have hq' := a5 hq
      subst hq'
      refine ⟨io 2, s1, ?_, fun N hN => ?_⟩
      · simp (disch := omega) only [f_L_ask, f_P_ask, f_P_isRange, Option.bind_some, Nat.reduceEqDiff, Nat.add_zero, Nat.zero_add, Nat.reduceLT, Nat.reduceLeDiff, Nat.reduceAdd, Nat.reduceSub, Nat.reduceMul, Nat.reduceDiv, Nat.lt_irrefl, Nat.not_lt_zero, Nat.zero_le, Nat.one_ne_zero, Nat.succ_ne_zero,  lt_def, i32_lit, reduceIte, P_isIn_eq, M_isIn_eq, M_goes_eq, or_false, false_or, or_true, true_or, and_true, true_and, and_false, false_and, not_true, not_false_eq_true, eq_self, if_true, if_false, not_or, not_and, Nat.not_lt, Nat.not_le, H.2.1, io_lt, n1, n2, n3, io_eq, e1, a1, hz1, hz2]
      · obtain ⟨v, s2, b1, b2, b3, b4⟩ := ask_M2 (F := F) hF H T M1 LM LG (S.fx f1) hR hu hab hb hq (f1.wide (by decide) (by decide)) N hN
        exact ⟨v, s2, by simp (disch := omega) only [f_M_ask, Option.bind_some, Nat.reduceEqDiff, Nat.add_zero, Nat.zero_add, Nat.reduceLT, Nat.reduceLeDiff, Nat.reduceAdd, Nat.reduceSub, Nat.reduceMul, Nat.reduceDiv, Nat.lt_irrefl, Nat.not_lt_zero, Nat.zero_le, Nat.one_ne_zero, Nat.succ_ne_zero,  lt_def, i32_lit, reduceIte, P_isIn_eq, M_isIn_eq, M_goes_eq, or_false, false_or, or_true, true_or, and_true, true_and, and_false, false_and, not_true, not_false_eq_true, eq_self, if_true, if_false, not_or, not_and, Nat.not_lt, Nat.not_le, b1], b2, fun h => absurd h (by decide), b3, b4⟩
    | some c =>
      obtain ⟨q, rfl, hT⟩ := a6 c hq
      have hne : ¬ some q = none := by simp
      obtain ⟨s2, p1, p2, p3⟩ := pick_eq (F := F) hF (LC.fx f1) LG hh hh hab (by omega)
      have LW2 : LW s2 L m h (pks L m a b h) := ⟨(LC.fx f1 : LGc s1 L m).fr p3, LG, hh, p2, Nat.le_trans pks_len LG.1, pks_mem⟩
      have f2 : FX EI9 EA9 s s2 := (f1.wide (by decide) (by decide)).trans (Fr.fx (p3.wide (by decide) (by decide)))
      have S2 : RST s2 u R := (S.fx f1 : RST s1 u R).fx p3.fx
      obtain ⟨s3, w1, w2, w3⟩ := walk_eq (F := F) hF hn (TQ.nm p3.nm _ _ _ hT) LW2 S2.2.1
      have f3 : FX EI9 EA9 s s3 := f2.trans (Fr.fx (w2.1.wide (by decide) (by decide)))
      have S3 : RST s3 u R := by
        obtain ⟨S1, -, ⟨v2, S4⟩, f0, h1, h2⟩ := S2
        exact ⟨RUm.fr S1 w2.1, w3, ⟨v2, TLr.fr S4 w2.1⟩, f0, h1, by rw [w2.1.gi 2511 (by decide)]; exact h2⟩
      refine ⟨io 0, sJ s3 70 0 (valQ (ev L (pks L m a b h)) c), ?_, fun N hN => ?_⟩
      · have e2 : gI s1 2 = io h := by rw [f1.1 2 (by decide)]; exact H.2.1
        simp (disch := omega) only [f_L_ask, f_P_ask, f_P_isRange, Option.bind_some, Nat.reduceEqDiff, Nat.add_zero, Nat.zero_add, Nat.reduceLT, Nat.reduceLeDiff, Nat.reduceAdd, Nat.reduceSub, Nat.reduceMul, Nat.reduceDiv, Nat.lt_irrefl, Nat.not_lt_zero, Nat.zero_le, Nat.one_ne_zero, Nat.succ_ne_zero,  lt_def, i32_lit, reduceIte, P_isIn_eq, M_isIn_eq, M_goes_eq, or_false, false_or, or_true, true_or, and_true, true_and, and_false, false_and, not_true, not_false_eq_true, eq_self, if_true, if_false, not_or, not_and, Nat.not_lt, Nat.not_le, H.2.1, io_lt, n1, n2, n3, io_eq, e1, a1, hz1, hne, e2, p1, w1]
      · obtain ⟨v, s4, b1, b2, b3, b4, b5⟩ := ask_M (F := F) hF H T M1 LM LG S3 hR hu hab hb hq f3 N hN
        exact ⟨v, s4, by simp (disch := omega) only [f_M_ask, Option.bind_some, Nat.reduceEqDiff, Nat.add_zero, Nat.zero_add, Nat.reduceLT, Nat.reduceLeDiff, Nat.reduceAdd, Nat.reduceSub, Nat.reduceMul, Nat.reduceDiv, Nat.lt_irrefl, Nat.not_lt_zero, Nat.zero_le, Nat.one_ne_zero, Nat.succ_ne_zero,  lt_def, i32_lit, reduceIte, P_isIn_eq, M_isIn_eq, M_goes_eq, or_false, false_or, or_true, true_or, and_true, true_and, and_false, false_and, not_true, not_false_eq_true, eq_self, if_true, if_false, not_or, not_and, Nat.not_lt, Nat.not_le, b1], b2, fun _ => b3, b4, b5⟩
theorem op_askByCodes (hF : 5000 ≤ F) (H : HH s h) (X : TX s n) (LC : LGc s L m) (LM : LGm s L m) (LG : LGg L m h) (S : RST s u R) (hR : R ≤ 4) (hu : ∀ r, r < R → (uc (u r)).length ≤ 40) (a b : Int32) :
    ∃ k s1, f_L_askByCodes F s a b = some (k, s1) ∧ ∀ N, sz s1 ≤ N → ∃ v s2, f_M_askByCodes F (sz' s1 N) a b = some (v, s2) ∧ gI s2 2551 = k ∧ (k = 0 → gJ s2 70 0 = v) ∧ FX EI9 EA9 s s2 ∧ RST s2 u R := by
  obtain ⟨t, T, X1, M1⟩ := X.txt
  have hn := T.1
  have hh := H.1
  have hz := szlt s
  have e1 : gI s 1 = io n := X.2.1
  rcases ask_cases (a := a) (b := b) hh with hbad | ⟨a, b, rfl, rfl, hab, hb⟩
  · refine ⟨io 1, s, ?_, fun N hN => ⟨0, sI (sz' s N) 2551 (io 1), ?_, rfl, fun h => absurd h (by decide), Fr.fx ((Fr.rf.Z hN).I (by decide)), S.fx (eI := [2551]) (eA := []) (Fr.fx ((Fr.rf.Z hN).I (by decide)))⟩⟩
    · have hr := isRange_bad (F := F) (s := s) hbad
      simp (disch := omega) only [f_L_askByCodes, f_P_askByCodes, Option.bind_some, Nat.reduceEqDiff, Nat.add_zero, Nat.zero_add, Nat.reduceLT, Nat.reduceLeDiff, Nat.reduceAdd, Nat.reduceSub, Nat.reduceMul, Nat.reduceDiv, Nat.lt_irrefl, Nat.not_lt_zero, Nat.zero_le, Nat.one_ne_zero, Nat.succ_ne_zero,  lt_def, i32_lit, reduceIte, P_isIn_eq, M_isIn_eq, M_goes_eq, or_false, false_or, or_true, true_or, and_true, true_and, and_false, false_and, not_true, not_false_eq_true, eq_self, if_true, if_false, not_or, not_and, Nat.not_lt, Nat.not_le, H.2.1, hr, hz]
    · have H' : HH (sz' s N) h := H
      have hr := asked_bad (F := F) H' hbad
      simp (disch := omega) only [f_M_askByCodes, Option.bind_some, Nat.reduceEqDiff, Nat.add_zero, Nat.zero_add, Nat.reduceLT, Nat.reduceLeDiff, Nat.reduceAdd, Nat.reduceSub, Nat.reduceMul, Nat.reduceDiv, Nat.lt_irrefl, Nat.not_lt_zero, Nat.zero_le, Nat.one_ne_zero, Nat.succ_ne_zero,  lt_def, i32_lit, reduceIte, P_isIn_eq, M_isIn_eq, M_goes_eq, or_false, false_or, or_true, true_or, and_true, true_and, and_false, false_and, not_true, not_false_eq_true, eq_self, if_true, if_false, not_or, not_and, Nat.not_lt, Nat.not_le, hr]
  · have n1 : ¬ h < a := by omega
    have n2 : ¬ b < a := by omega
    have n3 : ¬ h < b := by omega
    obtain ⟨q', s1, a1, a2, a3, a4, a5, a6⟩ := read_eq (F := F) (Z := sz s + 64) hF T X1 (by omega)
    have f1 := a2.fx
    have hz1 : sz s1 ≤ sz s + 64 := by omega
    have hz2 : sz s1 < sz s + 64 := by omega
    cases hq : ques t n with
    | none =>
      have hq' := a5 hq
      subst hq'
      refine ⟨io 2, s1, ?_, fun N hN => ?_⟩
      · simp (disch := omega) only [f_L_askByCodes, f_P_askByCodes, f_P_isRange, Option.bind_some, Nat.reduceEqDiff, Nat.add_zero, Nat.zero_add, Nat.reduceLT, Nat.reduceLeDiff, Nat.reduceAdd, Nat.reduceSub, Nat.reduceMul, Nat.reduceDiv, Nat.lt_irrefl, Nat.not_lt_zero, Nat.zero_le, Nat.one_ne_zero, Nat.succ_ne_zero,  lt_def, i32_lit, reduceIte, P_isIn_eq, M_isIn_eq, M_goes_eq, or_false, false_or, or_true, true_or, and_true, true_and, and_false, false_and, not_true, not_false_eq_true, eq_self, if_true, if_false, not_or, not_and, Nat.not_lt, Nat.not_le, H.2.1, io_lt, n1, n2, n3, io_eq, e1, a1, hz1, hz2]
      · obtain ⟨v, s2, b1, b2, b3, b4⟩ := ask_M2 (F := F) hF H T M1 LM LG (S.fx f1) hR hu hab hb hq (f1.wide (by decide) (by decide)) N hN
        exact ⟨v, s2, by simp (disch := omega) only [f_M_askByCodes, Option.bind_some, Nat.reduceEqDiff, Nat.add_zero, Nat.zero_add, Nat.reduceLT, Nat.reduceLeDiff, Nat.reduceAdd, Nat.reduceSub, Nat.reduceMul, Nat.reduceDiv, Nat.lt_irrefl, Nat.not_lt_zero, Nat.zero_le, Nat.one_ne_zero, Nat.succ_ne_zero,  lt_def, i32_lit, reduceIte, P_isIn_eq, M_isIn_eq, M_goes_eq, or_false, false_or, or_true, true_or, and_true, true_and, and_false, false_and, not_true, not_false_eq_true, eq_self, if_true, if_false, not_or, not_and, Nat.not_lt, Nat.not_le, b1], b2, fun h => absurd h (by decide), b3, b4⟩
    | some c =>
      obtain ⟨q, rfl, hT⟩ := a6 c hq
      have hne : ¬ some q = none := by simp
      obtain ⟨s2, c1, c2, c3⟩ := coder_eq (F := F) hF T (X1.fx f1) hq
      obtain ⟨s3, p1, p2, p3⟩ := pick_eq (F := F) hF ((LC.fx f1 : LGc s1 L m).fr c2.1) LG hh hh hab (by omega)
      have LW3 : LW s3 L m h (pks L m a b h) := ⟨((LC.fx f1 : LGc s1 L m).fr c2.1).fr p3, LG, hh, p2, Nat.le_trans pks_len LG.1, pks_mem⟩
      have f3 : FX EI9 EA9 s s3 := ((f1.wide (by decide) (by decide)).trans (Fr.fx (c2.1.wide (by decide) (by decide)))).trans (Fr.fx (p3.wide (by decide) (by decide)))
      have S3 : RST s3 u R := ((S.fx f1 : RST s1 u R).fx c2.1.fx : RST s2 u R).fx p3.fx
      have C3 : CR s3 (qrow c) := ⟨c3.1, by rw [p3.gi 1665 (by decide)]; exact c3.2.1, fun i hi => by rw [p3.ga 27 (by decide)]; exact c3.2.2 i hi⟩
      obtain ⟨s4, w1, w2, w3⟩ := coderun_eq (F := F) hF T hq C3 LW3 S3.2.2.1
      have f4 : FX EI9 EA9 s s4 := f3.trans (Fr.fx (w2.1.wide (by decide) (by decide)))
      have S4 : RST s4 u R := by
        obtain ⟨S1, ⟨v2, S4⟩, -, f0, h1, h2⟩ := S3
        exact ⟨RUm.fr S1 w2.1, ⟨v2, TLw.fr S4 w2.1⟩, w3, f0, h1, by rw [w2.1.gi 2511 (by decide)]; exact h2⟩
      refine ⟨io 0, sJ s4 70 0 (valQ (ev L (pks L m a b h)) c), ?_, fun N hN => ?_⟩
      · have e2 : gI s1 1 = io n := by rw [f1.1 1 (by decide)]; exact e1
        have e3 : gI s2 2 = io h := by rw [c2.1.gi 2 (by decide), f1.1 2 (by decide)]; exact H.2.1
        simp (disch := omega) only [f_L_askByCodes, f_P_askByCodes, f_P_isRange, Option.bind_some, Nat.reduceEqDiff, Nat.add_zero, Nat.zero_add, Nat.reduceLT, Nat.reduceLeDiff, Nat.reduceAdd, Nat.reduceSub, Nat.reduceMul, Nat.reduceDiv, Nat.lt_irrefl, Nat.not_lt_zero, Nat.zero_le, Nat.one_ne_zero, Nat.succ_ne_zero,  lt_def, i32_lit, reduceIte, P_isIn_eq, M_isIn_eq, M_goes_eq, or_false, false_or, or_true, true_or, and_true, true_and, and_false, false_and, not_true, not_false_eq_true, eq_self, if_true, if_false, not_or, not_and, Nat.not_lt, Nat.not_le, H.2.1, io_lt, n1, n2, n3, io_eq, e1, a1, hz1, hne, e2, c1, e3, p1, w1]
      · obtain ⟨v, s5, b1, b2, b3, b4, b5⟩ := ask_M (F := F) hF H T M1 LM LG S4 hR hu hab hb hq f4 N hN
        exact ⟨v, s5, by simp (disch := omega) only [f_M_askByCodes, Option.bind_some, Nat.reduceEqDiff, Nat.add_zero, Nat.zero_add, Nat.reduceLT, Nat.reduceLeDiff, Nat.reduceAdd, Nat.reduceSub, Nat.reduceMul, Nat.reduceDiv, Nat.lt_irrefl, Nat.not_lt_zero, Nat.zero_le, Nat.one_ne_zero, Nat.succ_ne_zero,  lt_def, i32_lit, reduceIte, P_isIn_eq, M_isIn_eq, M_goes_eq, or_false, false_or, or_true, true_or, and_true, true_and, and_false, false_and, not_true, not_false_eq_true, eq_self, if_true, if_false, not_or, not_and, Nat.not_lt, Nat.not_le, b1], b2, fun _ => b3, b4, b5⟩
end ASK
