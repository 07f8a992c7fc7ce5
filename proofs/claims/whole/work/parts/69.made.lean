/-! a rule is made -/
def IN (s s' : St) : Prop := gI s' = gI s ∧ gA s' = gA s ∧ gJ s' = gJ s ∧ gQ s' = gQ s
theorem IN.trans {s s1 s2 : St} (h : IN s s1) (h2 : IN s1 s2) : IN s s2 := ⟨h2.1.trans h.1, h2.2.1.trans h.2.1, h2.2.2.1.trans h.2.2.1, h2.2.2.2.trans h.2.2.2⟩
theorem gF {s s' : St} {q : Nat} {o o' : (Nat → Int32) × (Nat → Option Nat) × (Nat → Int64)} (e : s' = sF s (q, o) 6 o') : gD s' q = some (.inl (6, o')) ∧ (∀ p, p ≠ q → gD s' p = gD s p) ∧ sz s' = sz s ∧ IN s s' := by
  subst e
  exact ⟨by rw [gD_sF, if_pos rfl], fun p hp => by rw [gD_sF, if_neg hp], rfl, rfl, rfl, rfl, rfl⟩
theorem gN {s s' : St} {x : Dy} (e : s' = sN s x) : (∀ p, p ≠ sz s → gD s' p = gD s p) ∧ gD s' (sz s) = some x ∧ sz s' = sz s + 1 ∧ IN s s' := by
  subst e
  exact ⟨fun p hp => by rw [gD_sN, if_neg hp], by rw [gD_sN, if_pos rfl], rfl, rfl, rfl, rfl, rfl⟩
theorem rule_init {F q : Nat} {s : St} {o1 : (Nat → Int32) × (Nat → Option Nat) × (Nat → Int64)} (h1 : gD s q = some (.inl (6, o1))) (hs : sz s = q + 1) (nd : Option Nat) (a b c d : Int32) :
    ∃ s' o, f_Rule_init F s (some q) nd a b c d = some s' ∧ IN s s' ∧ sz s' = q + 3 ∧ gD s' q = some (.inl (6, o)) ∧ gD s' (q + 1) = some (.inr (.inl (1, 5, fun _ => 0))) ∧ gD s' (q + 2) = some (.inr (.inl (1, 5, fun _ => 0))) ∧ (∀ p, p < q → gD s' p = gD s p) ∧ o.1 1 = a ∧ o.1 2 = b ∧ o.1 3 = c ∧ o.1 4 = d ∧ o.1 5 = -1 ∧ o.1 8 = 0 ∧ o.1 9 = 0 ∧ o.1 10 = -1 ∧ o.2.1 0 = nd ∧ o.2.1 6 = some (q + 1) ∧ o.2.1 7 = some (q + 2) := by
  obtain ⟨o2, eo2⟩ : ∃ o2, o2 = (ups o1.1 5 (-1), o1.2) := ⟨_, rfl⟩
  obtain ⟨s2, es2⟩ : ∃ s2, s2 = sF s (q, o1) 6 o2 := ⟨_, rfl⟩
  obtain ⟨gs2, fs2, zs2, is2⟩ := gF es2
  obtain ⟨s3, es3⟩ : ∃ s3, s3 = sN s2 (.inr (.inl (1, 5, fun _ => 0))) := ⟨_, rfl⟩
  obtain ⟨fs3, as3, zs3, is3⟩ := gN es3
  have gs3 := (fs3 q (by omega)).trans gs2
  obtain ⟨o5, eo5⟩ : ∃ o5, o5 = (o2.1, ups o2.2.1 6 (some (sz s2)), o2.2.2) := ⟨_, rfl⟩
  obtain ⟨s5, es5⟩ : ∃ s5, s5 = sF s3 (q, o2) 6 o5 := ⟨_, rfl⟩
  obtain ⟨gs5, fs5, zs5, is5⟩ := gF es5
  obtain ⟨s6, es6⟩ : ∃ s6, s6 = sN s5 (.inr (.inl (1, 5, fun _ => 0))) := ⟨_, rfl⟩
  obtain ⟨fs6, as6, zs6, is6⟩ := gN es6
  have gs6 := (fs6 q (by omega)).trans gs5
  obtain ⟨o8, eo8⟩ : ∃ o8, o8 = (o5.1, ups o5.2.1 7 (some (sz s5)), o5.2.2) := ⟨_, rfl⟩
  obtain ⟨s8, es8⟩ : ∃ s8, s8 = sF s6 (q, o5) 6 o8 := ⟨_, rfl⟩
  obtain ⟨gs8, fs8, zs8, is8⟩ := gF es8
  obtain ⟨o10, eo10⟩ : ∃ o10, o10 = (ups o8.1 8 0, o8.2) := ⟨_, rfl⟩
  obtain ⟨s10, es10⟩ : ∃ s10, s10 = sF s8 (q, o8) 6 o10 := ⟨_, rfl⟩
  obtain ⟨gs10, fs10, zs10, is10⟩ := gF es10
  obtain ⟨o12, eo12⟩ : ∃ o12, o12 = (ups o10.1 9 0, o10.2) := ⟨_, rfl⟩
  obtain ⟨s12, es12⟩ : ∃ s12, s12 = sF s10 (q, o10) 6 o12 := ⟨_, rfl⟩
  obtain ⟨gs12, fs12, zs12, is12⟩ := gF es12
  obtain ⟨o14, eo14⟩ : ∃ o14, o14 = (ups o12.1 10 (-1), o12.2) := ⟨_, rfl⟩
  obtain ⟨s14, es14⟩ : ∃ s14, s14 = sF s12 (q, o12) 6 o14 := ⟨_, rfl⟩
  obtain ⟨gs14, fs14, zs14, is14⟩ := gF es14
  obtain ⟨o16, eo16⟩ : ∃ o16, o16 = (o14.1, ups o14.2.1 0 nd, o14.2.2) := ⟨_, rfl⟩
  obtain ⟨s16, es16⟩ : ∃ s16, s16 = sF s14 (q, o14) 6 o16 := ⟨_, rfl⟩
  obtain ⟨gs16, fs16, zs16, is16⟩ := gF es16
  obtain ⟨o18, eo18⟩ : ∃ o18, o18 = (ups o16.1 1 a, o16.2) := ⟨_, rfl⟩
  obtain ⟨s18, es18⟩ : ∃ s18, s18 = sF s16 (q, o16) 6 o18 := ⟨_, rfl⟩
  obtain ⟨gs18, fs18, zs18, is18⟩ := gF es18
  obtain ⟨o20, eo20⟩ : ∃ o20, o20 = (ups o18.1 2 b, o18.2) := ⟨_, rfl⟩
  obtain ⟨s20, es20⟩ : ∃ s20, s20 = sF s18 (q, o18) 6 o20 := ⟨_, rfl⟩
  obtain ⟨gs20, fs20, zs20, is20⟩ := gF es20
  obtain ⟨o22, eo22⟩ : ∃ o22, o22 = (ups o20.1 3 c, o20.2) := ⟨_, rfl⟩
  obtain ⟨s22, es22⟩ : ∃ s22, s22 = sF s20 (q, o20) 6 o22 := ⟨_, rfl⟩
  obtain ⟨gs22, fs22, zs22, is22⟩ := gF es22
  obtain ⟨o24, eo24⟩ : ∃ o24, o24 = (ups o22.1 4 d, o22.2) := ⟨_, rfl⟩
  obtain ⟨s24, es24⟩ : ∃ s24, s24 = sF s22 (q, o22) 6 o24 := ⟨_, rfl⟩
  obtain ⟨gs24, fs24, zs24, is24⟩ := gF es24
  refine ⟨s24, o24, ?_, ((((((((((((is2).trans is3).trans is5).trans is6).trans is8).trans is10).trans is12).trans is14).trans is16).trans is18).trans is20).trans is22).trans is24, by omega, gs24, ?_, ?_, fun p hp => ?_, ?_⟩
  · simp only [f_Rule_init, Option.bind_some, lt_def, dgo_at h1, ← eo2, ← es2, dgo_at gs2, ← es3, dgo_at gs3, ← eo5, ← es5, dgo_at gs5, ← es6, dgo_at gs6, ← eo8, ← es8, dgo_at gs8, ← eo10, ← es10, dgo_at gs10, ← eo12, ← es12, dgo_at gs12, ← eo14, ← es14, dgo_at gs14, ← eo16, ← es16, dgo_at gs16, ← eo18, ← es18, dgo_at gs18, ← eo20, ← es20, dgo_at gs20, ← eo22, ← es22, dgo_at gs22, ← eo24, ← es24, dgo_at gs24]
  · rw [fs24 _ (by omega), fs22 _ (by omega), fs20 _ (by omega), fs18 _ (by omega), fs16 _ (by omega), fs14 _ (by omega), fs12 _ (by omega), fs10 _ (by omega), fs8 _ (by omega), fs6 _ (by omega), fs5 _ (by omega), (show q + 1 = sz s2 by omega)]; exact as3
  · rw [fs24 _ (by omega), fs22 _ (by omega), fs20 _ (by omega), fs18 _ (by omega), fs16 _ (by omega), fs14 _ (by omega), fs12 _ (by omega), fs10 _ (by omega), fs8 _ (by omega), (show q + 2 = sz s5 by omega)]; exact as6
  · rw [fs24 _ (by omega), fs22 _ (by omega), fs20 _ (by omega), fs18 _ (by omega), fs16 _ (by omega), fs14 _ (by omega), fs12 _ (by omega), fs10 _ (by omega), fs8 _ (by omega), fs6 _ (by omega), fs5 _ (by omega), fs3 _ (by omega), fs2 _ (by omega)]
  · have w2 : sz s2 = q + 1 := by omega
    have w5 : sz s5 = q + 2 := by omega
    simp only [eo24, eo22, eo20, eo18, eo16, eo14, eo12, eo10, eo8, eo5, eo2, w2, w5, ups, reduceIte, Nat.reduceEqDiff, and_self]
theorem AL.mono {s : St} {h n r c w n' r' : Nat} (A : AL s h n r c w) (h1 : n ≤ n') (h2 : r ≤ r') (h3 : r' ≤ 4) : AL s h n' r' c w := by
  obtain ⟨A1, A2, A3, A4, A5, A6, A7, A8⟩ := A
  refine ⟨A1, h3, A3, A4, A5, A6, A7, fun i hi => ?_⟩
  obtain ⟨q, t, p, u, a, b1, b2, b3, b4, b5, b6, b7, b8, hor⟩ := A8 i hi
  refine ⟨q, t, p, u, a, by omega, b2, b3, b4, b5, b6, b7, b8, ?_⟩
  rcases hor with ⟨d1, d2, d3, d4, d5, d6⟩ | hor
  · exact Or.inl ⟨d1, d2, by omega, d4, d5, d6⟩
  · exact Or.inr hor
/-- the model reads the text twice -/
theorem M_turns4 {F R n : Nat} {t : Nat → Nat} (hF : 5000 ≤ F) {z : St} {u : Nat → RU} (T : TXT t n) (M1 : MT t n z) (S : RST z u R) (hR : R ≤ 4) (hu : ∀ r, r < R → (uc (u r)).length ≤ 40) : ∃ r s2, f_M_turns F z (io 4) = some (r, s2) ∧ FM ET 4 z s2 ∧ RST s2 u R ∧ (ques t n = none → r = io (perr t)) ∧ ∀ c, ques t n = some c → r = -io 1 := by
  obtain ⟨S1, ⟨v1, S2⟩, ⟨v2, S3⟩, S4⟩ := S
  obtain ⟨r, s2, b1, b2, b3, b4, b5⟩ := turns_eq (F := F) (p := 4) hF T (Nat.le_refl _) M1 S4
  exact ⟨r, s2, b1, b2, ⟨S1.fm hR hu b2, ⟨v1, S2.fr b2.1⟩, ⟨v2, S3.fr b2.1⟩, b3⟩, b4, fun c hc => (b5 c hc).1⟩
theorem M_addRule_no {F : Nat} {s : St} {a b c t : Int32} (ht : t = io 1 ∨ t = io 2 ∨ t = io 3) : f_M_addRule_b75 F s a b c t = some (io 0, sI s 2551 t) := by
  rcases ht with rfl | rfl | rfl <;> simp (disch := omega) only [f_M_addRule_b75, Option.bind_some, Nat.reduceEqDiff, Nat.add_zero, Nat.zero_add, Nat.reduceLT, Nat.reduceLeDiff, Nat.reduceAdd, Nat.reduceSub, Nat.reduceMul, Nat.reduceDiv, Nat.lt_irrefl, Nat.not_lt_zero, Nat.zero_le, Nat.one_ne_zero, Nat.succ_ne_zero,  lt_def, i32_lit, reduceIte, P_isIn_eq, M_isIn_eq, M_goes_eq, or_false, false_or, or_true, true_or, and_true, true_and, and_false, false_and, not_true, not_false_eq_true, eq_self, if_true, if_false, not_or, not_and, Nat.not_lt, Nat.not_le, io_eq]
theorem in_cases {x : Int32} {l g : Nat} (hg : g ≤ 1000) (hl : l ≤ 1000) : (x < io l ∨ io g < x) ∨ ∃ y, x = io y ∧ l ≤ y ∧ y ≤ g := by
  rcases in_or (x := x) (a := io l) (b := io g) with ⟨n1, r1, r1'⟩ | n1
  · have h0 : io 0 ≤ x := by
      rw [Int32.le_iff_toInt_le, io_toInt (by omega)] at r1 ⊢
      omega
    obtain ⟨p, rfl, hp⟩ := io_in (by omega) h0 r1'
    rw [io_le (by omega) (by omega)] at r1
    exact Or.inr ⟨p, rfl, r1, hp⟩
  · exact Or.inl n1
/-- the model says no -/
theorem M_addRule_f {F n pn : Nat} {z s2 : St} {a b c r k : Int32} (P : PE s2 pn) (e1 : f_M_turns F z (io 4) = some (r, s2))
    (h : (¬ isP pn a ∧ k = io 1) ∨ (isP pn a ∧ (b < io 1 ∨ io 72 < b) ∧ k = io 2) ∨ (isP pn a ∧ ¬ (b < io 1 ∨ io 72 < b) ∧ (c < io 0 ∨ io 72 < c) ∧ k = io 2) ∨ (isP pn a ∧ ¬ (b < io 1 ∨ io 72 < b) ∧ ¬ (c < io 0 ∨ io 72 < c) ∧ (r ≠ -io 1 ∨ gI s2 2536 = io 4) ∧ k = io 3)) :
    f_M_addRule F z a b c = some (io 0, sI s2 2551 k) := by
  have hneg : ((-1 : Int32)) = -io 1 := by decide
  rcases h with ⟨h1, rfl⟩ | ⟨h1, h2, rfl⟩ | ⟨h1, h2, h3, rfl⟩ | ⟨h1, h2, h3, h4, rfl⟩
  · have hm := M_addRule_no (F := F) (s := s2) (a := a) (b := b) (c := c) (t := io 1) (Or.inl rfl)
    have hp := M_person_f (F := F) P h1
    have hb : ∀ t0, f_M_addRule_b32 F s2 a b c r t0 = some (io 0, sI s2 2551 (io 1)) := fun t0 => by
      simp (disch := omega) only [f_M_addRule_b32, Option.bind_some, Nat.reduceEqDiff, Nat.add_zero, Nat.zero_add, Nat.reduceLT, Nat.reduceLeDiff, Nat.reduceAdd, Nat.reduceSub, Nat.reduceMul, Nat.reduceDiv, Nat.lt_irrefl, Nat.not_lt_zero, Nat.zero_le, Nat.one_ne_zero, Nat.succ_ne_zero,  lt_def, i32_lit, reduceIte, P_isIn_eq, M_isIn_eq, M_goes_eq, or_false, false_or, or_true, true_or, and_true, true_and, and_false, false_and, not_true, not_false_eq_true, eq_self, if_true, if_false, not_or, not_and, Nat.not_lt, Nat.not_le, hp, hm]
    by_cases q1 : b < io 1 ∨ io 72 < b
    · simp (disch := omega) only [f_M_addRule, Option.bind_some, Nat.reduceEqDiff, Nat.add_zero, Nat.zero_add, Nat.reduceLT, Nat.reduceLeDiff, Nat.reduceAdd, Nat.reduceSub, Nat.reduceMul, Nat.reduceDiv, Nat.lt_irrefl, Nat.not_lt_zero, Nat.zero_le, Nat.one_ne_zero, Nat.succ_ne_zero,  lt_def, i32_lit, reduceIte, P_isIn_eq, M_isIn_eq, M_goes_eq, or_false, false_or, or_true, true_or, and_true, true_and, and_false, false_and, not_true, not_false_eq_true, eq_self, if_true, if_false, not_or, not_and, Nat.not_lt, Nat.not_le, e1, q1, hb]
    · by_cases q2 : c < io 0 ∨ io 72 < c
      · simp (disch := omega) only [f_M_addRule, Option.bind_some, Nat.reduceEqDiff, Nat.add_zero, Nat.zero_add, Nat.reduceLT, Nat.reduceLeDiff, Nat.reduceAdd, Nat.reduceSub, Nat.reduceMul, Nat.reduceDiv, Nat.lt_irrefl, Nat.not_lt_zero, Nat.zero_le, Nat.one_ne_zero, Nat.succ_ne_zero,  lt_def, i32_lit, reduceIte, P_isIn_eq, M_isIn_eq, M_goes_eq, or_false, false_or, or_true, true_or, and_true, true_and, and_false, false_and, not_true, not_false_eq_true, eq_self, if_true, if_false, not_or, not_and, Nat.not_lt, Nat.not_le, e1, q1, q2, hb, io_eq]
      · simp (disch := omega) only [f_M_addRule, Option.bind_some, Nat.reduceEqDiff, Nat.add_zero, Nat.zero_add, Nat.reduceLT, Nat.reduceLeDiff, Nat.reduceAdd, Nat.reduceSub, Nat.reduceMul, Nat.reduceDiv, Nat.lt_irrefl, Nat.not_lt_zero, Nat.zero_le, Nat.one_ne_zero, Nat.succ_ne_zero,  lt_def, i32_lit, reduceIte, P_isIn_eq, M_isIn_eq, M_goes_eq, or_false, false_or, or_true, true_or, and_true, true_and, and_false, false_and, not_true, not_false_eq_true, eq_self, if_true, if_false, not_or, not_and, Nat.not_lt, Nat.not_le, e1, q1, q2, hb, io_eq]
  · have hm := M_addRule_no (F := F) (s := s2) (a := a) (b := b) (c := c) (t := io 2) (Or.inr (Or.inl rfl))
    have hp := M_person_t (F := F) P h1
    simp (disch := omega) only [f_M_addRule, f_M_addRule_b32, Option.bind_some, Nat.reduceEqDiff, Nat.add_zero, Nat.zero_add, Nat.reduceLT, Nat.reduceLeDiff, Nat.reduceAdd, Nat.reduceSub, Nat.reduceMul, Nat.reduceDiv, Nat.lt_irrefl, Nat.not_lt_zero, Nat.zero_le, Nat.one_ne_zero, Nat.succ_ne_zero,  lt_def, i32_lit, reduceIte, P_isIn_eq, M_isIn_eq, M_goes_eq, or_false, false_or, or_true, true_or, and_true, true_and, and_false, false_and, not_true, not_false_eq_true, eq_self, if_true, if_false, not_or, not_and, Nat.not_lt, Nat.not_le, e1, h2, hp, hm, io_eq]
  · have hm := M_addRule_no (F := F) (s := s2) (a := a) (b := b) (c := c) (t := io 2) (Or.inr (Or.inl rfl))
    have hp := M_person_t (F := F) P h1
    simp (disch := omega) only [f_M_addRule, f_M_addRule_b32, Option.bind_some, Nat.reduceEqDiff, Nat.add_zero, Nat.zero_add, Nat.reduceLT, Nat.reduceLeDiff, Nat.reduceAdd, Nat.reduceSub, Nat.reduceMul, Nat.reduceDiv, Nat.lt_irrefl, Nat.not_lt_zero, Nat.zero_le, Nat.one_ne_zero, Nat.succ_ne_zero,  lt_def, i32_lit, reduceIte, P_isIn_eq, M_isIn_eq, M_goes_eq, or_false, false_or, or_true, true_or, and_true, true_and, and_false, false_and, not_true, not_false_eq_true, eq_self, if_true, if_false, not_or, not_and, Nat.not_lt, Nat.not_le, e1, h2, h3, hp, hm, io_eq]
  · have hm := M_addRule_no (F := F) (s := s2) (a := a) (b := b) (c := c) (t := io 3) (Or.inr (Or.inr rfl))
    have hp := M_person_t (F := F) P h1
    by_cases q : r = -io 1
    · have q4 : gI s2 2536 = io 4 := by
        rcases h4 with h4 | h4
        · exact absurd q h4
        · exact h4
      simp (disch := omega) only [f_M_addRule, f_M_addRule_b32, Option.bind_some, Nat.reduceEqDiff, Nat.add_zero, Nat.zero_add, Nat.reduceLT, Nat.reduceLeDiff, Nat.reduceAdd, Nat.reduceSub, Nat.reduceMul, Nat.reduceDiv, Nat.lt_irrefl, Nat.not_lt_zero, Nat.zero_le, Nat.one_ne_zero, Nat.succ_ne_zero,  lt_def, i32_lit, reduceIte, P_isIn_eq, M_isIn_eq, M_goes_eq, or_false, false_or, or_true, true_or, and_true, true_and, and_false, false_and, not_true, not_false_eq_true, eq_self, if_true, if_false, not_or, not_and, Nat.not_lt, Nat.not_le, e1, h2, h3, hp, hm, io_eq, q, q4]
    · simp (disch := omega) only [f_M_addRule, f_M_addRule_b32, Option.bind_some, Nat.reduceEqDiff, Nat.add_zero, Nat.zero_add, Nat.reduceLT, Nat.reduceLeDiff, Nat.reduceAdd, Nat.reduceSub, Nat.reduceMul, Nat.reduceDiv, Nat.lt_irrefl, Nat.not_lt_zero, Nat.zero_le, Nat.one_ne_zero, Nat.succ_ne_zero,  lt_def, i32_lit, reduceIte, P_isIn_eq, M_isIn_eq, M_goes_eq, or_false, false_or, or_true, true_or, and_true, true_and, and_false, false_and, not_true, not_false_eq_true, eq_self, if_true, if_false, not_or, not_and, Nat.not_lt, Nat.not_le, e1, h2, h3, hp, hm, io_eq, q]
def EIr : List Nat := 4 :: 2536 :: EI9
def EAr : List Nat := 59 :: 60 :: 61 :: EA9
theorem M_addRule_t {F n pn R : Nat} {t : Nat → Nat} (hF : 5000 ≤ F) {z s2 : St} {a b c : Int32} {r : Int32} {q : List QT} (T : TXT t n) (P : PE s2 pn) (e1 : f_M_turns F z (io 4) = some (r, s2)) (hr : r = -io 1) (M2 : MT t n s2) (g0 : ∃ f0, f0 < 128 ∧ gI s2 2511 = io f0) (e36 : gI s2 2536 = io R) (hR : R < 4) (h1 : isP pn a) (h2 : ¬ (b < io 1 ∨ io 72 < b)) (h3 : ¬ (c < io 0 ∨ io 72 < c)) (hq : ques t n = some q) :
    ∃ s4 s5, FM ET R (sI s2 2551 (io 0)) s4 ∧ (∃ f0, f0 < 128 ∧ gI s4 2511 = io f0) ∧ PG s4 R q ∧ f_M_addRule F z a b c = some (io R, s5) ∧ s5 = sI (sA (sA (sA s4 59 R a) 60 R b) 61 R c) 2536 (io (R + 1)) := by
  have hneg : ((-1 : Int32)) = -io 1 := by decide
  have hp := M_person_t (F := F) P h1
  have M3 : MT t n (sI s2 2551 (io 0)) := M2
  obtain ⟨r', s4, b1, b2, b3, b4, b5⟩ := turns_eq (F := F) (p := R) hF T (by omega) M3 (by obtain ⟨f0, x1, x2⟩ := g0; exact ⟨f0, x1, x2⟩)
  have e36' : gI (sI s2 2551 (io 0)) 2536 = io R := e36
  have e36s : gI s4 2536 = io R := by rw [b2.1.gi 2536 (by decide)]; exact e36
  have n4 : ¬ R = 4 := by omega
  refine ⟨s4, _, b2, b3, (b5 q hq).2, ?_, rfl⟩
  simp (disch := omega) only [f_M_addRule, f_M_addRule_b32, f_M_addRule_b75, Option.bind_some, Nat.reduceEqDiff, Nat.add_zero, Nat.zero_add, Nat.reduceLT, Nat.reduceLeDiff, Nat.reduceAdd, Nat.reduceSub, Nat.reduceMul, Nat.reduceDiv, Nat.lt_irrefl, Nat.not_lt_zero, Nat.zero_le, Nat.one_ne_zero, Nat.succ_ne_zero,  lt_def, i32_lit, reduceIte, P_isIn_eq, M_isIn_eq, M_goes_eq, or_false, false_or, or_true, true_or, and_true, true_and, and_false, false_and, not_true, not_false_eq_true, eq_self, if_true, if_false, not_or, not_and, Nat.not_lt, Nat.not_le, e1, h2, h3, hp, io_eq, hr, e36, n4, gI_sI, b1, e36s, ix_io, gI_sA, io_add, io_sub, Nat.add_sub_cancel]
/-- the class says no -/
theorem P_addRule_f {F n pn R : Nat} {t : Nat → Nat} (hF : 5000 ≤ F) {s : St} {u : Nat → RU} {a b c : Int32} (P : PE s pn) (C : RUc s u R) (hR : R ≤ 4) (X : TX s n) (T : TXT t n) (X1 : CX2 t n s) :
    (¬ isP pn a → f_L_addRule F s a b c = some (io 1, s)) ∧ (isP pn a → (b < io 1 ∨ io 72 < b) → f_L_addRule F s a b c = some (io 2, s)) ∧ (isP pn a → ¬ (b < io 1 ∨ io 72 < b) → (c < io 0 ∨ io 72 < c) → f_L_addRule F s a b c = some (io 2, s)) := by
  have hz := szlt s
  refine ⟨fun h1 => ?_, fun h1 h2 => ?_, fun h1 h2 h3 => ?_⟩
  · have hp := P_person_f (F := F) P h1
    have e : f_P_addRule F (sz s + 64) s a b c = some (.inr 2, s) := by
      rw [f_P_addRule, hp, Option.bind_some]
      show (if (io 0 : Int32) = 0 then (if sz s < sz s + 64 then some (Sum.inr 2, s) else none) else _) = _
      rw [if_pos (show (io 0 : Int32) = 0 from rfl), if_pos hz]
    simp (disch := omega) only [f_L_addRule, Option.bind_some, Nat.reduceEqDiff, Nat.add_zero, Nat.zero_add, Nat.reduceLT, Nat.reduceLeDiff, Nat.reduceAdd, Nat.reduceSub, Nat.reduceMul, Nat.reduceDiv, Nat.lt_irrefl, Nat.not_lt_zero, Nat.zero_le, Nat.one_ne_zero, Nat.succ_ne_zero,  lt_def, i32_lit, reduceIte, P_isIn_eq, M_isIn_eq, M_goes_eq, or_false, false_or, or_true, true_or, and_true, true_and, and_false, false_and, not_true, not_false_eq_true, eq_self, if_true, if_false, not_or, not_and, Nat.not_lt, Nat.not_le, e]
  · have hp := P_person_t (F := F) P h1
    simp (disch := omega) only [f_L_addRule, f_P_addRule, Option.bind_some, Nat.reduceEqDiff, Nat.add_zero, Nat.zero_add, Nat.reduceLT, Nat.reduceLeDiff, Nat.reduceAdd, Nat.reduceSub, Nat.reduceMul, Nat.reduceDiv, Nat.lt_irrefl, Nat.not_lt_zero, Nat.zero_le, Nat.one_ne_zero, Nat.succ_ne_zero,  lt_def, i32_lit, reduceIte, P_isIn_eq, M_isIn_eq, M_goes_eq, or_false, false_or, or_true, true_or, and_true, true_and, and_false, false_and, not_true, not_false_eq_true, eq_self, if_true, if_false, not_or, not_and, Nat.not_lt, Nat.not_le, hp, hz, h2, io_eq]
  · have hp := P_person_t (F := F) P h1
    simp (disch := omega) only [f_L_addRule, f_P_addRule, Option.bind_some, Nat.reduceEqDiff, Nat.add_zero, Nat.zero_add, Nat.reduceLT, Nat.reduceLeDiff, Nat.reduceAdd, Nat.reduceSub, Nat.reduceMul, Nat.reduceDiv, Nat.lt_irrefl, Nat.not_lt_zero, Nat.zero_le, Nat.one_ne_zero, Nat.succ_ne_zero,  lt_def, i32_lit, reduceIte, P_isIn_eq, M_isIn_eq, M_goes_eq, or_false, false_or, or_true, true_or, and_true, true_and, and_false, false_and, not_true, not_false_eq_true, eq_self, if_true, if_false, not_or, not_and, Nat.not_lt, Nat.not_le, hp, hz, h2, h3, io_eq]
theorem op_addRule {F R n h m pn c w : Nat} (hF : 5000 ≤ F) {s : St} {u : Nat → RU} {L : Nat → LR} (H : HH s h) (X : TX s n) (P : PE s pn) (C : RUc s u R) (S : RST s u R) (G : RUg u R h pn) (hS : HS L m u R h) (A : AL s h pn R c w) (x y v : Int32) :
    ∃ k s1, f_L_addRule F s x y v = some (k, s1) ∧ ∀ N, sz s1 ≤ N → ∃ b s2, f_M_addRule F (sz' s1 N) x y v = some (b, s2) ∧ gI s2 2551 = k ∧ (k = 0 → gJ s2 70 0 = b.toInt64) ∧ FY EIr EAr s s2 ∧ ∃ u' R', RUc s2 u' R' ∧ RST s2 u' R' ∧ RUg u' R' h pn ∧ HS L m u' R' h ∧ csum u' R' = csum u R ∧ AL s2 h pn R' c w := by
  obtain ⟨t, T, X1, M1⟩ := X.txt
  have hn := T.1
  have hh := H.1
  have hz := szlt s
  have hR := G.1
  have hu : ∀ r, r < R → (uc (u r)).length ≤ 40 := fun r hr => (G.2.1 r hr).2.1
  have e1 : gI s 1 = io n := X.2.1
  have hPf := P_addRule_f (F := F) (a := x) (b := y) (c := v) hF P C hR X T X1
  -- refusals
  have no : ∀ s1 k N, FX EI9 EA9 s s1 → RST s1 u R → sz s1 ≤ N → (k = io 1 ∨ k = io 2 ∨ k = io 3) → (∀ r s2, f_M_turns F (sz' s1 N) (io 4) = some (r, s2) → PE s2 pn → gI s2 2536 = io R → (ques t n = none → r = io (perr t)) → f_M_addRule F (sz' s1 N) x y v = some (io 0, sI s2 2551 k)) →
      ∃ b s2, f_M_addRule F (sz' s1 N) x y v = some (b, s2) ∧ gI s2 2551 = k ∧ (k = 0 → gJ s2 70 0 = b.toInt64) ∧ FY EIr EAr s s2 ∧ ∃ u' R', RUc s2 u' R' ∧ RST s2 u' R' ∧ RUg u' R' h pn ∧ HS L m u' R' h ∧ csum u' R' = csum u R ∧ AL s2 h pn R' c w := by
    intro s1 k N f S1 hN hk hm
    have f0 : Fr [] [] s1 (sz' s1 N) := Fr.rf.Z hN
    have fz : FX EI9 EA9 s (sz' s1 N) := f.trans (f0.wide (by decide) (by decide)).fx
    obtain ⟨r, s2, b1, b2, b3, b4, b5⟩ := M_turns4 (F := F) hF T (M1.fx fz : MT t n (sz' s1 N)) (S1.fx (f0.fx)) hR hu
    have f2 : FX EI9 EA9 s s2 := fz.trans (Fr.fx (b2.1.wide (by decide) (by decide)))
    have hm2 := hm r s2 b1 (P.fx f2) b3.1.1 b4
    have f3 : Fr [2551] [] s2 (sI s2 2551 k) := Fr.rf.I (by decide)
    have f4 : FX EI9 EA9 s (sI s2 2551 k) := f2.trans (f3.wide (by decide) (by decide)).fx
    have hk0 : k ≠ 0 := by rcases hk with rfl | rfl | rfl <;> decide
    have ek : gI (sI s2 2551 k) 2551 = k := by rw [gI_sI, if_pos rfl]
    exact ⟨io 0, _, hm2, ek, fun h => absurd h hk0, (f4.wide (by decide) (by decide) : FX EIr EAr s _).swD, u, R, C.fx f4, b3.fx f3.fx, G, hS, rfl, A.fx f4⟩
  have frf : FX EI9 EA9 s s := (Fr.rf : Fr EI9 EA9 s s).fx
  by_cases h1 : isP pn x
  · rcases in_cases (x := y) (l := 1) (g := 72) (by omega) (by omega) with h2 | ⟨y, rfl, hy1, hy2⟩
    · exact ⟨io 2, s, hPf.2.1 h1 h2, fun N hN => no s _ N frf S hN (Or.inr (Or.inl rfl)) (fun r s2 q1 q2 q3 q4 => M_addRule_f (n := n) q2 q1 (Or.inr (Or.inl ⟨h1, h2, rfl⟩)))⟩
    · have n2 : ¬ (io y < io 1 ∨ io 72 < io y) := by rw [io_lt (by omega) (by omega), io_lt (by omega) (by omega)]; omega
      rcases in_cases (x := v) (l := 0) (g := 72) (by omega) (by omega) with h3 | ⟨v, rfl, hv1, hv2⟩
      · exact ⟨io 2, s, hPf.2.2 h1 n2 h3, fun N hN => no s _ N frf S hN (Or.inr (Or.inl rfl)) (fun r s2 q1 q2 q3 q4 => M_addRule_f (n := n) q2 q1 (Or.inr (Or.inr (Or.inl ⟨h1, n2, h3, rfl⟩))))⟩
      · have n3 : ¬ (io v < io 0 ∨ io 72 < io v) := by rw [io_lt (by omega) (by omega), io_lt (by omega) (by omega)]; omega
        obtain ⟨q', s1, a1, a2, a3, a4, a5, a6⟩ := read_eq (F := F) (Z := sz s + 64) hF T X1 (by omega)
        have f1 := a2.fx
        have f1' : FX EI9 EA9 s s1 := f1.wide (by decide) (by decide)
        have S1 : RST s1 u R := S.fx f1
        have hz1 : sz s1 ≤ sz s + 64 := by omega
        have hz2 : sz s1 < sz s + 64 := by omega
        have hp := P_person_t (F := F) P h1
        have e4 : gI s1 4 = io R := (C.fx f1).1
        have hperr := perr_le T
        have bad3 : f_L_addRule F s x (io y) (io v) = some (io 3, s1) → (ques t n = none ∨ R = 4) → ∃ k s1, f_L_addRule F s x (io y) (io v) = some (k, s1) ∧ ∀ N, sz s1 ≤ N → ∃ b s2, f_M_addRule F (sz' s1 N) x (io y) (io v) = some (b, s2) ∧ gI s2 2551 = k ∧ (k = 0 → gJ s2 70 0 = b.toInt64) ∧ FY EIr EAr s s2 ∧ ∃ u' R', RUc s2 u' R' ∧ RST s2 u' R' ∧ RUg u' R' h pn ∧ HS L m u' R' h ∧ csum u' R' = csum u R ∧ AL s2 h pn R' c w := fun hL hor =>
          ⟨io 3, s1, hL, fun N hN => no s1 _ N f1' S1 hN (Or.inr (Or.inr rfl)) (fun r s2 q1 q2 q3 q4 => M_addRule_f (n := n) q2 q1 (Or.inr (Or.inr (Or.inr ⟨h1, n2, n3, by
            rcases hor with hq | rfl
            · left; rw [q4 hq]; exact fun e => by rw [io_neg1 (show perr t < 2147483648 by omega)] at e; exact e
            · exact Or.inr q3, rfl⟩))))⟩
        cases hq : ques t n with
        | none =>
          have hq' := a5 hq
          subst hq'
          refine bad3 ?_ (Or.inl hq)
          simp (disch := omega) only [f_L_addRule, f_P_addRule, Option.bind_some, Nat.reduceEqDiff, Nat.add_zero, Nat.zero_add, Nat.reduceLT, Nat.reduceLeDiff, Nat.reduceAdd, Nat.reduceSub, Nat.reduceMul, Nat.reduceDiv, Nat.lt_irrefl, Nat.not_lt_zero, Nat.zero_le, Nat.one_ne_zero, Nat.succ_ne_zero,  lt_def, i32_lit, reduceIte, P_isIn_eq, M_isIn_eq, M_goes_eq, or_false, false_or, or_true, true_or, and_true, true_and, and_false, false_and, not_true, not_false_eq_true, eq_self, if_true, if_false, not_or, not_and, Nat.not_lt, Nat.not_le, hp, n2, n3, io_eq, e1, a1, hz1, hz2]
        | some cq =>
          obtain ⟨q, rfl, hT⟩ := a6 cq hq
          obtain ⟨o1, o2, -⟩ := ques_ok T hq
          have hne : ¬ some q = none := by simp
          rcases (by omega : R = 4 ∨ R < 4) with rfl | hR4
          · have m1 : ¬ y < 1 := by omega
            have m2 : ¬ 72 < y := by omega
            have m3 : ¬ 72 < v := by omega
            refine bad3 ?_ (Or.inr rfl)
            simp (disch := omega) only [f_L_addRule, f_P_addRule, Option.bind_some, Nat.reduceEqDiff, Nat.add_zero, Nat.zero_add, Nat.reduceLT, Nat.reduceLeDiff, Nat.reduceAdd, Nat.reduceSub, Nat.reduceMul, Nat.reduceDiv, Nat.lt_irrefl, Nat.not_lt_zero, Nat.zero_le, Nat.one_ne_zero, Nat.succ_ne_zero,  lt_def, i32_lit, reduceIte, P_isIn_eq, M_isIn_eq, M_goes_eq, or_false, false_or, or_true, true_or, and_true, true_and, and_false, false_and, not_true, not_false_eq_true, eq_self, if_true, if_false, not_or, not_and, Nat.not_lt, Nat.not_le, hp, io_eq, e1, a1, hz1, hz2, hne, e4, io_lt, m1, m2, m3]
          · obtain ⟨pw, hpw, rfl⟩ := h1
            obtain ⟨s5, hs5⟩ : ∃ s5, s5 = sN s1 (.inl (6, fun _ => io 0, fun _ => none, fun _ => 0)) := ⟨_, rfl⟩
            obtain ⟨f5, g5, z5, i5⟩ := gN hs5
            obtain ⟨s6, o, e6, i6, z6, g6, g7, g8, g9, k1, k2, k3, k4, k5, k8, k9, k10, k0, k6, k7⟩ := rule_init (F := F) g5 z5 (some q) (io pw) (io y) (io v) (gI s5 2)
            have e2 : gI s5 2 = io h := by rw [i5.1, f1.1 2 (by decide)]; exact H.2.1
            have e46 : gI s6 4 = io R := by rw [i6.1, i5.1]; exact e4
            have hz6a : sz s5 + 2 ≤ sz s6 := by omega
            have hz6b : sz s6 ≤ sz s + 64 := by omega
            obtain ⟨s9, hs9⟩ : ∃ s9, s9 = sI (sQ s6 2 R (some (sz s1))) 4 (io (R + 1)) := ⟨_, rfl⟩
            have n0 : ¬ R < 0 := by omega
            have m1 : ¬ y < 1 := by omega
            have m2 : ¬ 72 < y := by omega
            have m3 : ¬ 72 < v := by omega
            have e49 : gI s9 4 = io (R + 1) := by rw [hs9, gI_sI, if_pos rfl]
            have hcl : f_L_addRule F s (io pw) (io y) (io v) = some (io 0, sJ s9 70 0 (io R).toInt64) := by
              simp (disch := omega) only [f_L_addRule, f_P_addRule, Option.bind_some, Nat.reduceEqDiff, Nat.add_zero, Nat.zero_add, Nat.reduceLT, Nat.reduceLeDiff, Nat.reduceAdd, Nat.reduceSub, Nat.reduceMul, Nat.reduceDiv, Nat.lt_irrefl, Nat.not_lt_zero, Nat.zero_le, Nat.one_ne_zero, Nat.succ_ne_zero,  lt_def, i32_lit, reduceIte, P_isIn_eq, M_isIn_eq, M_goes_eq, or_false, false_or, or_true, true_or, and_true, true_and, and_false, false_and, not_true, not_false_eq_true, eq_self, if_true, if_false, not_or, not_and, Nat.not_lt, Nat.not_le, hp, io_eq, e1, a1, hz1, hz2, hne, e4, io_lt, m1, m2, m3, n0, hR4, ← hs5, dgo_at g5, e6, hz6a, hz6b, dgo_at g6, ix_io, gI_sQ, e46, io_add, ← hs9, e49, io_sub, Nat.add_sub_cancel]
            refine ⟨io 0, _, hcl, fun N hN => ?_⟩
            have eI9 : ∀ k, k ≠ 4 → gI s9 k = gI s1 k := fun k hk => by rw [hs9, gI_sI, if_neg hk, gI_sQ, i6.1, i5.1]
            have eA9 : gA s9 = gA s1 := by rw [hs9, gA_sI, gA_sQ, i6.2.1, i5.2.1]
            have eQ9 : ∀ k, gQ s9 2 k = if k = R then some (sz s1) else gQ s 2 k := fun k => by
              rw [hs9, gQ_sI, gQ_sQ, if_pos rfl, i6.2.2.2, i5.2.2.2, f1.2.2.1]
            have eD9 : gD s9 = gD s6 := by rw [hs9, gD_sI, gD_sQ]
            have eS9 : sz s9 = sz s1 + 3 := by rw [hs9, sz_sI, sz_sQ]; exact z6
            have hN9 : sz s9 ≤ N := hN
            obtain ⟨z, hzz⟩ : ∃ z, z = sz' (sJ s9 70 0 (io R).toInt64) N := ⟨_, rfl⟩
            have zI : ∀ k, gI z k = gI s9 k := fun k => by rw [hzz, gI_sz, gI_sJ]
            have zA : gA z = gA s1 := by rw [hzz, gA_sz, gA_sJ, eA9]
            have zQ : gQ z = gQ s9 := by rw [hzz, gQ_sz, gQ_sJ]
            have zD : gD z = gD s6 := by rw [hzz, gD_sz, gD_sJ, eD9]
            have zS : sz z = N := by rw [hzz, sz_sz]
            have zJ : gJ z 70 0 = (io R).toInt64 := by rw [hzz, gJ_sz, gJ_sJ, if_pos rfl, if_pos rfl]
            rw [← hzz]
            have fyz : FY [4] [] s1 z := ⟨fun k hk => (zI k).trans (eI9 k (fun e => hk (by rw [e]; decide))), fun k _ => by show gA z k = _; rw [zA], rfl, rfl, by show sz s1 ≤ sz z; omega⟩
            have Sz : RST z u R := by
              obtain ⟨S1, ⟨v1, S2⟩, ⟨v2, S3⟩, f0, x1, x2⟩ := S1
              exact ⟨S1.fy fyz, ⟨v1, S2.fy fyz⟩, ⟨v2, S3.fy fyz⟩, f0, x1, by rw [zI, eI9 2511 (by decide)]; exact x2⟩
            have Mz : MT t n z := ⟨by rw [zI, eI9 2497 (by decide), f1.1 2497 (by decide)]; exact M1.1, by rw [zA, f1.2.1 40 (by decide)]; exact M1.2⟩
            have Pz : PE z pn := (P.fx f1).fy fyz
            obtain ⟨r, s2, b1, b2, b3, b4, b5⟩ := M_turns4 (F := F) hF T Mz Sz hR hu
            obtain ⟨s4, s10, c1, c2, c3, c4, c5⟩ := M_addRule_t (F := F) (pn := pn) (R := R) hF T (Pz.fr b2.1) b1 (b5 cq hq) ⟨by rw [b2.1.gi 2497 (by decide)]; exact Mz.1, by rw [b2.1.ga 40 (by decide)]; exact Mz.2⟩ b3.2.2.2 b3.1.1 hR4 ⟨pw, hpw, rfl⟩ n2 n3 hq
            have fA : Fr (2551 :: ET) [41, 42, 43, 44, 45, 46, 47, 48, 49] z s4 := (b2.1.wide (by decide) (by decide)).trans (((Fr.rf.I (by decide) : Fr [2551] [] s2 (sI s2 2551 (io 0))).wide (by decide) (by decide)).trans (c1.1.wide (by decide) (by decide)))
            have jI : ∀ k, k ≠ 2536 → gI s10 k = gI s4 k := fun k hk => by rw [c5, gI_sI, if_neg hk, gI_sA, gI_sA, gI_sA]
            have j36 : gI s10 2536 = io (R + 1) := by rw [c5, gI_sI, if_pos rfl]
            have jA : ∀ k, k ≠ 59 → k ≠ 60 → k ≠ 61 → gA s10 k = gA s4 k := fun k h1 h2 h3 => by
              funext j
              rw [c5, gA_sI, gA_sA, if_neg h3, gA_sA, if_neg h2, gA_sA, if_neg h1]
            have j59 : ∀ j, gA s10 59 j = if j = R then io pw else gA s4 59 j := fun j => by
              rw [c5, gA_sI, gA_sA, if_neg (show ¬ (59 : Nat) = 61 by decide), gA_sA, if_neg (show ¬ (59 : Nat) = 60 by decide), gA_sA, if_pos rfl]
            have j60 : ∀ j, gA s10 60 j = if j = R then io y else gA s4 60 j := fun j => by
              rw [c5, gA_sI, gA_sA, if_neg (show ¬ (60 : Nat) = 61 by decide), gA_sA, if_pos rfl, gA_sA, if_neg (show ¬ (60 : Nat) = 59 by decide)]
            have j61 : ∀ j, gA s10 61 j = if j = R then io v else gA s4 61 j := fun j => by
              rw [c5, gA_sI, gA_sA, if_pos rfl, gA_sA, if_neg (show ¬ (61 : Nat) = 60 by decide), gA_sA, if_neg (show ¬ (61 : Nat) = 59 by decide)]
            have jQ : gQ s10 = gQ s9 := by rw [c5, gQ_sI, gQ_sA, gQ_sA, gQ_sA, fA.2.2.1, zQ]
            have jD : gD s10 = gD s6 := by rw [c5, gD_sI, gD_sA, gD_sA, gD_sA, fA.2.2.2.1, zD]
            have jS : N ≤ sz s10 := by rw [c5, sz_sI, sz_sA, sz_sA, sz_sA, ← zS]; exact fA.2.2.2.2
            have jJ : gJ s10 70 0 = (io R).toInt64 := by rw [c5, gJ_sI, gJ_sA, gJ_sA, gJ_sA, c1.2.1, gJ_sI, b2.2.1]; exact zJ
            have fy : FY EIr EAr s s10 := by
              refine ⟨fun k hk => ?_, fun k hk => ?_, rfl, rfl, ?_⟩
              · show gI s10 k = gI s k
                rw [jI k (fun e => hk (by rw [e]; decide)), fA.gi k (fun e => hk ((show ∀ x ∈ (2551 :: ET), x ∈ EIr by decide) k e)), zI, eI9 k (fun e => hk (by rw [e]; decide)), f1.1 k (fun e => hk ((show ∀ x ∈ [1537, 1538], x ∈ EIr by decide) k e))]
              · show gA s10 k = gA s k
                rw [jA k (fun e => hk (by rw [e]; decide)) (fun e => hk (by rw [e]; decide)) (fun e => hk (by rw [e]; decide)), fA.ga k (fun e => hk ((show ∀ x ∈ [41, 42, 43, 44, 45, 46, 47, 48, 49], x ∈ EAr by decide) k e)), zA, f1.2.1 k (by simp)]
              · show sz s ≤ sz s10
                have := a2.de.1
                omega
            have de1 : DE s1 s10 := ⟨by omega, fun p hp => by rw [jD, g9 p hp, f5 p (by omega)]⟩
            have de : DE s s10 := f1.2.2.2.trans de1
            have hcl40 : cq.length ≤ 40 := by omega
            obtain ⟨xx, hxx⟩ : ∃ xx : RU, xx = (sz s1, cq, pw, y, v, h, 0, [], 0, 0) := ⟨_, rfl⟩
            have l1 : gI s10 2551 = io 0 := by rw [jI 2551 (by decide), c1.1.gi 2551 (by decide), gI_sI, if_pos rfl]
            have hx : ∀ r, r < R → ups u R xx r = u r := fun r hr => if_neg (by omega)
            have hxR : ups u R xx R = xx := if_pos rfl
            have hpu := fun r hr => (C.2 r hr).2.1
            refine ⟨io R, s10, c4, l1, fun _ => jJ, fy, ups u R xx, R + 1, ?_, ?_, ?_, ?_, ?_, ?_⟩
            · refine ⟨by rw [jI 4 (by decide), fA.gi 4 (by decide), zI]; exact e49, fun r hr => ?_⟩
              rcases (by omega : r = R ∨ r < R) with rfl | hr
              · rw [hxR, jQ, eQ9, if_pos rfl, hxx]
                refine ⟨rfl, show sz s1 + 2 < sz s10 by omega, o, _, _, q, by rw [jD]; exact g6, by rw [jD]; exact g7, by rw [jD]; exact g8, ?_⟩
                refine ⟨k1, k2, k3, k4.trans e2, k5, k8, k9, k10, k0, k6, k7, (TQ.nm de1.nm _ _ _ hT).le hn, fun i hi => absurd hi (Nat.not_lt_zero _)⟩
              · rw [hx r hr, jQ, eQ9, if_neg (by omega)]
                exact ⟨(C.2 r hr).1, (C.2 r hr).2.de de⟩
            · obtain ⟨S1, ⟨v1, S2⟩, ⟨v2, S3⟩, -⟩ := b3
              have f24 : Fr (2551 :: ET) [41, 42, 43, 44, 45, 46, 47, 48, 49] s2 s4 := ((Fr.rf.I (by decide) : Fr [2551] [] s2 (sI s2 2551 (io 0))).wide (by decide) (by decide)).trans (c1.1.wide (by decide) (by decide))
              have T4 : TLw s4 v1 := S2.fr f24
              have U4 : TLr s4 v2 := S3.fr f24
              have fB : Fr [2536] [59, 60, 61] s4 s10 := by
                rw [c5]
                exact ((((Fr.rf.A (by decide)).A (by decide)).A (by decide)).I (by decide))
              obtain ⟨f0, w1, w2⟩ := c2
              refine ⟨⟨j36, fun r hr => ?_, fun r h1 h2 => ?_⟩, ⟨v1, T4.fr fB⟩, ⟨v2, U4.fr fB⟩, f0, w1, by rw [jI 2511 (by decide)]; exact w2⟩
              · rcases (by omega : r = R ∨ r < R) with rfl | hr
                · rw [hxR, hxx]
                  have hz0 := S1.2.2 r (Nat.le_refl _) hR4
                  refine ⟨by rw [j59, if_pos rfl]; rfl, by rw [j60, if_pos rfl]; rfl, by rw [j61, if_pos rfl]; rfl, by rw [jA 62 (by decide) (by decide) (by decide), f24.ga 62 (by decide)]; exact hz0.1, by rw [jA 64 (by decide) (by decide) (by decide), f24.ga 64 (by decide)]; exact hz0.2.1, fun e => absurd rfl e, by rw [jA 65 (by decide) (by decide) (by decide), f24.ga 65 (by decide)]; exact hz0.2.2, fun i hi => absurd hi (Nat.not_lt_zero _), ?_⟩
                  have c3' : PG s10 r cq := c3.eq (fun k hk i hi => by rw [jA k (by omega) (by omega) (by omega)]) (by rw [jA 43 (by decide) (by decide) (by decide)]) (by omega)
                  exact c3'
                · rw [hx r hr]
                  obtain ⟨b1, b2, b3, b4, b5, b6, b7, b8, b9⟩ := S1.2.1 r hr
                  have hur := hu r hr
                  refine ⟨by rw [j59, if_neg (by omega), f24.ga 59 (by decide)]; exact b1, by rw [j60, if_neg (by omega), f24.ga 60 (by decide)]; exact b2, by rw [j61, if_neg (by omega), f24.ga 61 (by decide)]; exact b3, by rw [jA 62 (by decide) (by decide) (by decide), f24.ga 62 (by decide)]; exact b4, by rw [jA 64 (by decide) (by decide) (by decide), f24.ga 64 (by decide)]; exact b5, by rw [jA 63 (by decide) (by decide) (by decide), f24.ga 63 (by decide)]; exact b6, by rw [jA 65 (by decide) (by decide) (by decide), f24.ga 65 (by decide)]; exact b7, by rw [jA 66 (by decide) (by decide) (by decide), f24.ga 66 (by decide), jA 67 (by decide) (by decide) (by decide), f24.ga 67 (by decide)]; exact b8, ?_⟩
                  refine b9.eq (fun k hk i hi => ?_) ?_ (by omega)
                  · rw [jA k (by omega) (by omega) (by omega), c1.2.2.1 k hk _ (by omega), gA_sI]
                  · rw [jA 43 (by decide) (by decide) (by decide), c1.2.2.2.1 43 (by omega) r (by omega), gA_sI]
              · rw [jA 62 (by decide) (by decide) (by decide), f24.ga 62 (by decide), jA 64 (by decide) (by decide) (by decide), f24.ga 64 (by decide), jA 65 (by decide) (by decide) (by decide), f24.ga 65 (by decide)]
                exact S1.2.2 r (by omega) h2
            · refine ⟨by omega, fun r hr => ?_, fun r r' h1 h2 => ?_⟩
              · rcases (by omega : r = R ∨ r < R) with rfl | hr
                · rw [hxR, hxx]
                  exact ⟨o1, hcl40, hpw, hy1, hy2, hv2, Nat.le_refl _, Or.inl rfl, Nat.zero_le _, (fun e he => by cases he), ⟨fun _ => rfl, fun _ => rfl⟩, Nat.zero_le _, Nat.zero_le _⟩
                · rw [hx r hr]; exact G.2.1 r hr
              · rcases (by omega : r' = R ∨ r' < R) with rfl | hr
                · rw [hxR, hx r (by omega), hxx]
                  have hq1 := hpu r (by omega)
                  have hq2 := a2.de.1
                  show uq (u r) + 3 ≤ sz s1
                  omega
                · rw [hx r (by omega), hx r' hr]; exact G.2.2 r r' h1 hr
            · intro r hr
              rcases (by omega : r = R ∨ r < R) with rfl | hr
              · rw [hxR, hxx]
                show rcn L m (sz s1, cq, pw, y, v, h, 0, [], 0, 0) (h - h) = (0, 0)
                rw [Nat.sub_self]; rfl
              · rw [hx r hr]; exact hS r hr
            · show csum (ups u R xx) R + un (ups u R xx R) = csum u R
              have hcs : ∀ k, k ≤ R → csum (ups u R xx) k = csum u k := by
                intro k
                induction k with
                | zero => intro _; rfl
                | succ k ih =>
                  intro hk
                  show csum (ups u R xx) k + un (ups u R xx k) = csum u k + un (u k)
                  rw [ih (by omega), hx k (by omega)]
              rw [hxR, hcs R (Nat.le_refl _), hxx]; rfl
            · have A1 : AL s10 h pn R c w := A.fy fy
              exact A1.mono (Nat.le_refl _) (by omega) (by omega)
  · exact ⟨io 1, s, hPf.1 h1, fun N hN => no s _ N frf S hN (Or.inl rfl) (fun r s2 q1 q2 q3 q4 => M_addRule_f (n := n) q2 q1 (Or.inl ⟨h1, rfl⟩))⟩
