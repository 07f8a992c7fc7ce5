/-! a rule is made -/
def IN (s s' : St) : Prop := gI s' = gI s ∧ gA s' = gA s ∧ gJ s' = gJ s ∧ gQ s' = gQ s
theorem IN.trans {s s1 s2 : St} (h : IN s s1) (h2 : IN s1 s2) : IN s s2 := ⟨h2.1.trans h.1, h2.2.1.trans h.2.1, h2.2.2.1.trans h.2.2.1, h2.2.2.2.trans h.2.2.2⟩
theorem gF {s s' : St} {q : Nat} {o o' : (Nat → Int32) × (Nat → Option Nat) × (Nat → Int64)} (e : s' = sF s (q, o) 6 o') : gD s' q = some (.inl (6, o')) ∧ (∀ p, p ≠ q → gD s' p = gD s p) ∧ sz s' = sz s ∧ IN s s' := by
  subst e
  exact ⟨by rw [gD_sF, if_pos rfl], fun p hp => by rw [gD_sF, if_neg hp], rfl, rfl, rfl, rfl, rfl⟩
theorem gN {s s' : St} {x : Dy} (e : s' = sN s x) : (∀ p, p ≠ sz s → gD s' p = gD s p) ∧ gD s' (sz s) = some x ∧ sz s' = sz s + 1 ∧ IN s s' := by
  subst e
  exact ⟨fun p hp => by rw [gD_sN, if_neg hp], by rw [gD_sN, if_pos rfl], rfl, rfl, rfl, rfl, rfl⟩
theorem rule_init {F q : Nat} {s : St} {o1 : (Nat → Int32) × (Nat → Option Nat) × (Nat → Int64)} (h1 : gD s q = some (.inl (6, o1))) (hs : sz s = q + 1) (nd : Option Nat) (a b c d : Int32) :
    ∃ s' o, f_Rule_init F s (some q) nd a b c d = some s' ∧ IN s s' ∧ sz s' = q + 3 ∧ gD s' q = some (.inl (6, o)) ∧ gD s' (q + 1) = some (.inr (.inl (1, 5, fun _ => 0))) ∧ gD s' (q + 2) = some (.inr (.inl (1, 5, fun _ => 0))) ∧ (∀ p, p < q → gD s' p = gD s p) ∧ o.1 1 = a ∧ o.1 2 = b ∧ o.1 3 = c ∧ o.1 4 = d ∧ o.1 5 = -1 ∧ o.1 8 = 0 ∧ o.1 9 = 0 ∧ o.1 10 = -1 ∧ o.2.1 0 = nd ∧ o.2.1 6 = some (q + 1) ∧ o.2.1 7 = some (q + 2) := by
  obtain ⟨o2, eo2⟩ : ∃ o2, o2 = (ups o1.1 5 (-1), o1.2) := ⟨_, rfl⟩
  obtain ⟨s2, es2⟩ : ∃ s2, s2 = sF s (q, o1) 6 o2 := ⟨_, rfl⟩
  obtain ⟨gs2, fs2, zs2, is2⟩ := gF es2
  obtain ⟨s3, es3⟩ : ∃ s3, s3 = sN s2 (.inr (.inl (1, 5, fun _ => 0))) := ⟨_, rfl⟩
  obtain ⟨fs3, as3, zs3, is3⟩ := gN es3
  have gs3 := (fs3 q (by omega)).trans gs2
  obtain ⟨o5, eo5⟩ : ∃ o5, o5 = (o2.1, ups o2.2.1 6 (some (sz s2)), o2.2.2) := ⟨_, rfl⟩
  obtain ⟨s5, es5⟩ : ∃ s5, s5 = sF s3 (q, o2) 6 o5 := ⟨_, rfl⟩
  obtain ⟨gs5, fs5, zs5, is5⟩ := gF es5
  obtain ⟨s6, es6⟩ : ∃ s6, s6 = sN s5 (.inr (.inl (1, 5, fun _ => 0))) := ⟨_, rfl⟩
  obtain ⟨fs6, as6, zs6, is6⟩ := gN es6
  have gs6 := (fs6 q (by omega)).trans gs5
  obtain ⟨o8, eo8⟩ : ∃ o8, o8 = (o5.1, ups o5.2.1 7 (some (sz s5)), o5.2.2) := ⟨_, rfl⟩
  obtain ⟨s8, es8⟩ : ∃ s8, s8 = sF s6 (q, o5) 6 o8 := ⟨_, rfl⟩
  obtain ⟨gs8, fs8, zs8, is8⟩ := gF es8
  obtain ⟨o10, eo10⟩ : ∃ o10, o10 = (ups o8.1 8 0, o8.2) := ⟨_, rfl⟩
  obtain ⟨s10, es10⟩ : ∃ s10, s10 = sF s8 (q, o8) 6 o10 := ⟨_, rfl⟩
  obtain ⟨gs10, fs10, zs10, is10⟩ := gF es10
  obtain ⟨o12, eo12⟩ : ∃ o12, o12 = (ups o10.1 9 0, o10.2) := ⟨_, rfl⟩
  obtain ⟨s12, es12⟩ : ∃ s12, s12 = sF s10 (q, o10) 6 o12 := ⟨_, rfl⟩
  obtain ⟨gs12, fs12, zs12, is12⟩ := gF es12
  obtain ⟨o14, eo14⟩ : ∃ o14, o14 = (ups o12.1 10 (-1), o12.2) := ⟨_, rfl⟩
  obtain ⟨s14, es14⟩ : ∃ s14, s14 = sF s12 (q, o12) 6 o14 := ⟨_, rfl⟩
  obtain ⟨gs14, fs14, zs14, is14⟩ := gF es14
  obtain ⟨o16, eo16⟩ : ∃ o16, o16 = (o14.1, ups o14.2.1 0 nd, o14.2.2) := ⟨_, rfl⟩
  obtain ⟨s16, es16⟩ : ∃ s16, s16 = sF s14 (q, o14) 6 o16 := ⟨_, rfl⟩
  obtain ⟨gs16, fs16, zs16, is16⟩ := gF es16
  obtain ⟨o18, eo18⟩ : ∃ o18, o18 = (ups o16.1 1 a, o16.2) := ⟨_, rfl⟩
  obtain ⟨s18, es18⟩ : ∃ s18, s18 = sF s16 (q, o16) 6 o18 := ⟨_, rfl⟩
  obtain ⟨gs18, fs18, zs18, is18⟩ := gF es18
  obtain ⟨o20, eo20⟩ : ∃ o20, o20 = (ups o18.1 2 b, o18.2) := ⟨_, rfl⟩
  obtain ⟨s20, es20⟩ : ∃ s20, s20 = sF s18 (q, o18) 6 o20 := ⟨_, rfl⟩
  obtain ⟨gs20, fs20, zs20, is20⟩ := gF es20
  obtain ⟨o22, eo22⟩ : ∃ o22, o22 = (ups o20.1 3 c, o20.2) := ⟨_, rfl⟩
  obtain ⟨s22, es22⟩ : ∃ s22, s22 = sF s20 (q, o20) 6 o22 := ⟨_, rfl⟩
  obtain ⟨gs22, fs22, zs22, is22⟩ := gF es22
  obtain ⟨o24, eo24⟩ : ∃ o24, o24 = (ups o22.1 4 d, o22.2) := ⟨_, rfl⟩
  obtain ⟨s24, es24⟩ : ∃ s24, s24 = sF s22 (q, o22) 6 o24 := ⟨_, rfl⟩
  obtain ⟨gs24, fs24, zs24, is24⟩ := gF es24
  refine ⟨s24, o24, ?_, ((((((((((((is2).trans is3).trans is5).trans is6).trans is8).trans is10).trans is12).trans is14).trans is16).trans is18).trans is20).trans is22).trans is24, by omega, gs24, ?_, ?_, fun p hp => ?_, ?_⟩
  · simp only [f_Rule_init, Option.bind_some, lt_def, dgo_at h1, ← eo2, ← es2, dgo_at gs2, ← es3, dgo_at gs3, ← eo5, ← es5, dgo_at gs5, ← es6, dgo_at gs6, ← eo8, ← es8, dgo_at gs8, ← eo10, ← es10, dgo_at gs10, ← eo12, ← es12, dgo_at gs12, ← eo14, ← es14, dgo_at gs14, ← eo16, ← es16, dgo_at gs16, ← eo18, ← es18, dgo_at gs18, ← eo20, ← es20, dgo_at gs20, ← eo22, ← es22, dgo_at gs22, ← eo24, ← es24, dgo_at gs24]
  · rw [fs24 _ (by omega), fs22 _ (by omega), fs20 _ (by omega), fs18 _ (by omega), fs16 _ (by omega), fs14 _ (by omega), fs12 _ (by omega), fs10 _ (by omega), fs8 _ (by omega), fs6 _ (by omega), fs5 _ (by omega), (show q + 1 = sz s2 by omega)]; exact as3
  · rw [fs24 _ (by omega), fs22 _ (by omega), fs20 _ (by omega), fs18 _ (by omega), fs16 _ (by omega), fs14 _ (by omega), fs12 _ (by omega), fs10 _ (by omega), fs8 _ (by omega), (show q + 2 = sz s5 by omega)]; exact as6
  · rw [fs24 _ (by omega), fs22 _ (by omega), fs20 _ (by omega), fs18 _ (by omega), fs16 _ (by omega), fs14 _ (by omega), fs12 _ (by omega), fs10 _ (by omega), fs8 _ (by omega), fs6 _ (by omega), fs5 _ (by omega), fs3 _ (by omega), fs2 _ (by omega)]
  · have w2 : sz s2 = q + 1 := by omega
    have w5 : sz s5 = q + 2 := by omega
    simp only [eo24, eo22, eo20, eo18, eo16, eo14, eo12, eo10, eo8, eo5, eo2, w2, w5, ups, reduceIte, Nat.reduceEqDiff, and_self]
