/-! an hour: what it leaves, what has risen in it -/
theorem GN.begin {L : Nat → LR} {m n R : Nat} {y : GS} (G : GF L m n R y) (N : GN n R y) (hn : n ≤ 8) (h1 : yh y + 1 ≤ 1000) : GN n R (gB n y) := by
  obtain ⟨a1, a2, a3, a4, a5, a6, a7, a8, a9⟩ := G
  obtain ⟨n1, n2, n3, n4, n5, n6, n7, n8⟩ := N
  have hj : (yh y + 1) / 8 < 126 := by omega
  unfold gB
  by_cases h8 : (yh y + 1) % 8 = 0
  · rw [if_pos h8]
    have hd := a3.1
    have hnob := hold2_nob (d := yd y) a2 a3 hj hn
    obtain ⟨j, hjj⟩ : ∃ j, j = (yh y + 1) / 8 := ⟨_, rfl⟩
    rw [← hjj] at hj hnob ⊢
    have hj1 : 1 ≤ j ∧ yh y / 8 < j := by omega
    refine ⟨?_, fun i hi => ?_, fun i q hi hq e => ?_, fun i hi => ?_, fun i i' h h' hq => ?_, fun i hi => ?_, fun r hr => ?_, fun i hi => ?_⟩
    · show gho (gbeg (yg y) n (yd y) j) 0 = -io 1
      rw [gbeg_ho]; unfold ups; rw [if_neg (by omega)]; exact n1
    · show gof (gbeg (yg y) n (yd y) j) i < 2 ^ n
      rw [gbeg_of]; exact n2 i hi
    · show (gof (gbeg (yg y) n (yd y) j) i).testBit q = false
      have e' : gho (gbeg (yg y) n (yd y) j) i = io q := e
      rw [gbeg_ho] at e'
      rw [gbeg_of]
      unfold ups at e'
      by_cases c : i = j
      · rw [if_pos c] at e'; rw [c]; exact hold2_off a2 a3 hj hn hq e'
      · rw [if_neg c] at e'; exact n3 i q hi hq e'
    · show gda (gbeg (yg y) n (yd y) j) i ≠ gdb (gbeg (yg y) n (yd y) j) i
      have hi' : i < dbeg (yg y) n (yd y) j := hi
      unfold dbeg at hi'
      unfold gbeg
      by_cases c : paid2 (yg y) n (yd y) j = -io 1
      · rw [if_pos c] at hi' ⊢; exact n4 i hi'
      · rw [if_neg c] at hi' ⊢
        show rmv (gda (yg y)) _ i ≠ rmv (gdb (yg y)) _ i
        unfold rmv
        by_cases c2 : i < cl (paid2 (yg y) n (yd y) j)
        · rw [if_pos c2, if_pos c2]; exact n4 i (by omega)
        · rw [if_neg c2, if_neg c2]; exact n4 (i + 1) (by omega)
    · have e : ∀ k, xq (wkA (ya y) (yw y) (hold2 (yg y) n (yd y) j) (yh y + 1)) k = xq (ya y) k ∧ xt (wkA (ya y) (yw y) (hold2 (yg y) n (yd y) j) (yh y + 1)) k = xt (ya y) k := fun k => by unfold wkA; split <;> exact ⟨rfl, rfl⟩
      show xt (wkA (ya y) (yw y) (hold2 (yg y) n (yd y) j) (yh y + 1)) i + ur (yu y (xq (wkA (ya y) (yw y) (hold2 (yg y) n (yd y) j) (yh y + 1)) i)) < xt (wkA (ya y) (yw y) (hold2 (yg y) n (yd y) j) (yh y + 1)) i'
      have hq' : xq (wkA (ya y) (yw y) (hold2 (yg y) n (yd y) j) (yh y + 1)) i = xq (wkA (ya y) (yw y) (hold2 (yg y) n (yd y) j) (yh y + 1)) i' := hq
      rw [(e i).1, (e i').1] at hq'
      rw [(e i).1, (e i).2, (e i').2]; exact n5 i i' h h' hq'
    · have e : ∀ k, xq (wkA (ya y) (yw y) (hold2 (yg y) n (yd y) j) (yh y + 1)) k = xq (ya y) k ∧ xt (wkA (ya y) (yw y) (hold2 (yg y) n (yd y) j) (yh y + 1)) k = xt (ya y) k := fun k => by unfold wkA; split <;> exact ⟨rfl, rfl⟩
      show xt (wkA (ya y) (yw y) (hold2 (yg y) n (yd y) j) (yh y + 1)) i + 1 ≤ ul (yu y (xq (wkA (ya y) (yw y) (hold2 (yg y) n (yd y) j) (yh y + 1)) i))
      rw [(e i).1, (e i).2]; exact n6 i hi
    · have e : ∀ k, xq (wkA (ya y) (yw y) (hold2 (yg y) n (yd y) j) (yh y + 1)) k = xq (ya y) k := fun k => by unfold wkA; split <;> rfl
      show un (yu y r) = cnt (fun i => decide (xq (wkA (ya y) (yw y) (hold2 (yg y) n (yd y) j) (yh y + 1)) i = r)) (yc y)
      rw [n7 r hr]
      exact cnt_ext fun k _ => by rw [e]
    · show gho (gbeg (yg y) n (yd y) j) (xu (wkA (ya y) (yw y) (hold2 (yg y) n (yd y) j) (yh y + 1)) i / 8) = io (xp (wkA (ya y) (yw y) (hold2 (yg y) n (yd y) j) (yh y + 1)) i - 1) ∧ xt (wkA (ya y) (yw y) (hold2 (yg y) n (yd y) j) (yh y + 1)) i ≤ xu (wkA (ya y) (yw y) (hold2 (yg y) n (yd y) j) (yh y + 1)) i
      have hi' : i < wkW (yw y) (yc y) (hold2 (yg y) n (yd y) j) := hi
      rw [gbeg_ho]
      unfold wkW at hi'
      have old : i < yw y → ups (gho (yg y)) j (hold2 (yg y) n (yd y) j) (xu (ya y) i / 8) = io (xp (ya y) i - 1) ∧ xt (ya y) i ≤ xu (ya y) i := fun c => by
        obtain ⟨b1, b2⟩ := n8 i c
        have hw := a4.2.2.1
        obtain ⟨b3, b4, b5, b6, b7⟩ := a4.2.2.2 i (by omega)
        have b8 : xu (ya y) i ≤ yh y := by
          rcases b7 with b7 | b7
          · exact b7.2.2.2
          · omega
        unfold ups
        rw [if_neg (by omega)]; exact ⟨b1, b2⟩
      unfold wkA
      by_cases c : hold2 (yg y) n (yd y) j = -io 1
      · rw [if_pos c] at hi' ⊢; exact old hi'
      · rw [if_neg c] at hi' ⊢
        show ups (gho (yg y)) j (hold2 (yg y) n (yd y) j) ((if yw y ≤ i then yh y + 1 else xu (ya y) i) / 8) = io ((if yw y ≤ i then cl (hold2 (yg y) n (yd y) j) + 1 else xp (ya y) i) - 1) ∧ xt (ya y) i ≤ (if yw y ≤ i then yh y + 1 else xu (ya y) i)
        by_cases c2 : yw y ≤ i
        · rw [if_pos c2, if_pos c2, ← hjj]
          have b4 := (a4.2.2.2 i hi').2.2.1
          unfold ups
          rw [if_pos rfl, Nat.add_sub_cancel]
          rcases hnob with h | ⟨q, hq, h⟩
          · exact absurd h c
          · rw [h, cl_io (by omega)]; exact ⟨rfl, by omega⟩
        · rw [if_neg c2, if_neg c2]; exact old (by omega)
  · rw [if_neg h8]
    exact ⟨n1, n2, n3, n4, n5, n6, n7, n8⟩
theorem GN.step {L : Nat → LR} {m n R k : Nat} {y : GS} (G : GI L m n R y k) (N : GN n R y) (hn : n ≤ 8) (hk : k < R) : GN n R (gr1 L m y k) := by
  obtain ⟨a0, a1, a2, a3, a4, a5, a6, b1, b2, a8, a9⟩ := G
  obtain ⟨n1, n2, n3, n4, n5, n6, n7, n8⟩ := N
  unfold gr1
  by_cases hc : ud (yu y k) = 0 ∧ dueB L m (yu y k) (yh y) (ul (yu y k)) = true
  · rw [if_pos hc]
    obtain ⟨hd, hdue⟩ := hc
    have hw := a4.2.2.1
    have hdu : ul (yu y k) = 0 ∨ ur (yu y k) + (ul (yu y k) - 1) < yh y := by
      unfold dueB at hdue
      simp only [Bool.and_eq_true, decide_eq_true_eq] at hdue
      exact hdue.1
    have hnob : nob n (gho (yg y) (yh y / 8)) := (a2 (yh y / 8) (by omega)).2.2.1
    obtain ⟨A, hA⟩ : ∃ A, A = wkA (anew (ya y) (yc y) k (yh y)) (yw y) (gho (yg y) (yh y / 8)) (yh y) := ⟨_, rfl⟩
    have eq : ∀ i, xq A i = ups (xq (ya y)) (yc y) k i := fun i => by rw [hA]; unfold wkA; split <;> rfl
    have et : ∀ i, xt A i = ups (xt (ya y)) (yc y) (yh y) i := fun i => by rw [hA]; unfold wkA; split <;> rfl
    have eqo : ∀ i, i < yc y → xq A i = xq (ya y) i := fun i hi => by rw [eq]; unfold ups; rw [if_neg (by omega)]
    have eto : ∀ i, i < yc y → xt A i = xt (ya y) i := fun i hi => by rw [et]; unfold ups; rw [if_neg (by omega)]
    have eqc : xq A (yc y) = k := by rw [eq]; unfold ups; rw [if_pos rfl]
    have etc' : xt A (yc y) = yh y := by rw [et]; unfold ups; rw [if_pos rfl]
    have eu : ∀ q, ur (ups (yu y) k (uRise (yu y k) (yh y)) q) = ur (yu y q) := fun q => by
      unfold ups
      by_cases c : q = k
      · rw [if_pos c, c]; rfl
      · rw [if_neg c]
    rw [← hA]
    refine ⟨n1, n2, n3, n4, fun i i' h h' hq => ?_, fun i hi => ?_, fun r hr => ?_, fun i hi => ?_⟩
    · show xt A i + ur (ups (yu y) k (uRise (yu y k) (yh y)) (xq A i)) < xt A i'
      have h'9 : i' < yc y + 1 := h'
      have hq9 : xq A i = xq A i' := hq
      rw [eu]
      rcases (by omega : i' < yc y ∨ i' = yc y) with c | c
      · rw [eqo i (by omega), eqo i' c] at hq9
        rw [eqo i (by omega), eto i (by omega), eto i' c]; exact n5 i i' h c hq9
      · subst c
        rw [eqc, eqo i h] at hq9
        rw [eqo i h, eto i h, etc', hq9]
        have h6 := n6 i h
        rw [hq9] at h6
        omega
    · show xt A i + 1 ≤ ul (ups (yu y) k (uRise (yu y k) (yh y)) (xq A i))
      have hi9 : i < yc y + 1 := hi
      rcases (by omega : i < yc y ∨ i = yc y) with c | c
      · rw [eto i c, eqo i c]
        have h6 := n6 i c
        unfold ups
        by_cases c2 : xq (ya y) i = k
        · rw [if_pos c2]
          have h3 := (a4.2.2.2 i c).2.2.1
          show xt (ya y) i + 1 ≤ yh y + 1
          omega
        · rw [if_neg c2]; exact h6
      · rw [c, etc', eqc]
        unfold ups
        rw [if_pos rfl]
        exact Nat.le_refl _
    · show un (ups (yu y) k (uRise (yu y k) (yh y)) r) = cnt (fun i => decide (xq A i = r)) (yc y) + (if decide (xq A (yc y) = r) then 1 else 0)
      rw [eqc, cnt_ext (q := fun i => decide (xq (ya y) i = r)) (fun i hi => by rw [eqo i hi])]
      unfold ups
      by_cases c : r = k
      · rw [if_pos c, ← n7 r hr, c]; simp; rfl
      · rw [if_neg c, ← n7 r hr]
        have : ¬ k = r := fun e => c e.symm
        simp [this]
    · show gho (yg y) (xu A i / 8) = io (xp A i - 1) ∧ xt A i ≤ xu A i
      have hi9 : i < wkW (yw y) (yc y + 1) (gho (yg y) (yh y / 8)) := hi
      unfold wkW at hi9
      by_cases c : gho (yg y) (yh y / 8) = -io 1
      · rw [if_pos c] at hi9
        rw [eto i (by omega)]
        have e1 : xu A i = xu (ya y) i ∧ xp A i = xp (ya y) i := by
          rw [hA]; unfold wkA; rw [if_pos c]
          show ups (xu (ya y)) (yc y) 0 i = _ ∧ ups (xp (ya y)) (yc y) 0 i = _
          unfold ups
          rw [if_neg (by omega), if_neg (by omega)]; exact ⟨rfl, rfl⟩
        rw [e1.1, e1.2]; exact n8 i hi9
      · rw [if_neg c] at hi9
        have e1 : xu A i = (if yw y ≤ i then yh y else xu (ya y) i) ∧ xp A i = (if yw y ≤ i then cl (gho (yg y) (yh y / 8)) + 1 else xp (ya y) i) := by
          rw [hA]; unfold wkA; rw [if_neg c]
          show (if yw y ≤ i then yh y else ups (xu (ya y)) (yc y) 0 i) = _ ∧ (if yw y ≤ i then cl (gho (yg y) (yh y / 8)) + 1 else ups (xp (ya y)) (yc y) 0 i) = _
          by_cases c2 : yw y ≤ i
          · rw [if_pos c2, if_pos c2, if_pos c2, if_pos c2]; exact ⟨rfl, rfl⟩
          · rw [if_neg c2, if_neg c2, if_neg c2, if_neg c2]
            unfold ups
            rw [if_neg (by omega), if_neg (by omega)]; exact ⟨rfl, rfl⟩
        rw [e1.1, e1.2]
        by_cases c2 : yw y ≤ i
        · rw [if_pos c2, if_pos c2, Nat.add_sub_cancel]
          refine ⟨?_, ?_⟩
          · rcases hnob with h | ⟨q, hq, h⟩
            · exact absurd h c
            · rw [h, cl_io (by omega)]
          · rw [et]
            unfold ups
            by_cases c3 : i = yc y
            · rw [if_pos c3]; exact Nat.le_refl _
            · rw [if_neg c3]; exact (a4.2.2.2 i (by omega)).2.2.1
        · rw [if_neg c2, if_neg c2, eto i (by omega)]
          exact n8 i (by omega)
  · rw [if_neg hc]
    exact ⟨n1, n2, n3, n4, n5, n6, n7, n8⟩
theorem GN.steps {L : Nat → LR} {m n R : Nat} {y : GS} (G : GI L m n R y 0) (N : GN n R y) (hn : n ≤ 8) : ∀ k, k ≤ R → GN n R (grs L m y k) := by
  intro k
  induction k with
  | zero => intro _; exact N
  | succ k ih => intro h; exact GN.step (G.steps hn k (by omega)) (ih (by omega)) hn (by omega)
theorem GN.hour {L : Nat → LR} {m n R : Nat} {y : GS} (G : GF L m n R y) (N : GN n R y) (hn : n ≤ 8) (h1 : yh y + 1 ≤ 1000) : GN n R (gH L m n R y) := GN.steps (G.begin hn h1) (N.begin G hn h1) hn R (Nat.le_refl _)
/-- the same rule, but for its rises -/
def usm (x y : RU) : Prop := uq x = uq y ∧ uc x = uc y ∧ uo x = uo y ∧ uw x = uw y ∧ ur x = ur y ∧ um x = um y ∧ ud x = ud y ∧ us x = us y
/-- what has risen among the first k rules -/
def RSI (L : Nat → LR) (m : Nat) (y y' : GS) (k : Nat) : Prop := yh y' = yh y ∧ yg y' = yg y ∧ yd y' = yd y ∧ yc y ≤ yc y' ∧ yw y' ≤ yc y' ∧ (∀ r, usm (yu y' r) (yu y r)) ∧ (gho (yg y) (yh y / 8) = -io 1 → yw y' = yw y) ∧ (∀ i, i < yc y → xq (ya y') i = xq (ya y) i ∧ xt (ya y') i = xt (ya y) i ∧ xa (ya y') i = xa (ya y) i) ∧
  (∀ i i', yc y ≤ i → i < i' → i' < yc y' → xq (ya y') i < xq (ya y') i') ∧
  ∀ i, yc y ≤ i → i < yc y' → xq (ya y') i < k ∧ xt (ya y') i = yh y ∧ xa (ya y') i = 0 ∧ ud (yu y (xq (ya y') i)) = 0 ∧ silB (us (yu y (xq (ya y') i))) (yh y) = false ∧ valQ (ev L (pks L m (yh y + 1 - uw (yu y (xq (ya y') i))) (yh y) (yh y - 1))) (uc (yu y (xq (ya y') i))) ≠ 0 ∧ ∀ q, q < 8 → gho (yg y) (yh y / 8) = io q → xp (ya y') i = q + 1 ∧ xu (ya y') i = yh y
theorem RSI.step {L : Nat → LR} {m : Nat} {y y' : GS} {k : Nat} (S : RSI L m y y' k) : RSI L m y (gr1 L m y' k) (k + 1) := by
  obtain ⟨s1, s2, s3, s4, s5, s6, s7, s8, s9, s10⟩ := S
  unfold gr1
  by_cases hc : ud (yu y' k) = 0 ∧ dueB L m (yu y' k) (yh y') (ul (yu y' k)) = true
  · rw [if_pos hc]
    obtain ⟨hd, hdue⟩ := hc
    obtain ⟨u1, u2, u3, u4, u5, u6, u7, u8⟩ := s6 k
    unfold dueB at hdue
    simp only [Bool.and_eq_true, decide_eq_true_eq, Bool.not_eq_true'] at hdue
    rw [u7] at hd
    rw [u8, u4, u2, s1] at hdue
    rw [s1, s2]
    obtain ⟨A, hA⟩ : ∃ A, A = wkA (anew (ya y') (yc y') k (yh y)) (yw y') (gho (yg y) (yh y / 8)) (yh y) := ⟨_, rfl⟩
    have eq : ∀ i, xq A i = ups (xq (ya y')) (yc y') k i := fun i => by rw [hA]; unfold wkA; split <;> rfl
    have et : ∀ i, xt A i = ups (xt (ya y')) (yc y') (yh y) i := fun i => by rw [hA]; unfold wkA; split <;> rfl
    have ea : ∀ i, xa A i = ups (xa (ya y')) (yc y') 0 i := fun i => by rw [hA]; unfold wkA; split <;> rfl
    have eqo : ∀ i, i < yc y' → xq A i = xq (ya y') i := fun i hi => by rw [eq]; unfold ups; rw [if_neg (by omega)]
    have eto : ∀ i, i < yc y' → xt A i = xt (ya y') i := fun i hi => by rw [et]; unfold ups; rw [if_neg (by omega)]
    have eao : ∀ i, i < yc y' → xa A i = xa (ya y') i := fun i hi => by rw [ea]; unfold ups; rw [if_neg (by omega)]
    have eqc : xq A (yc y') = k := by rw [eq]; unfold ups; rw [if_pos rfl]
    have etc' : xt A (yc y') = yh y := by rw [et]; unfold ups; rw [if_pos rfl]
    have eac : xa A (yc y') = 0 := by rw [ea]; unfold ups; rw [if_pos rfl]
    have epu : ∀ q, q < 8 → gho (yg y) (yh y / 8) = io q → ∀ i, i ≤ yc y' → xp A i = (if yw y' ≤ i then q + 1 else xp (ya y') i) ∧ xu A i = (if yw y' ≤ i then yh y else xu (ya y') i) := fun q hq e i hi => by
      rw [hA, e]; unfold wkA
      rw [if_neg (by rw [io_neg1 (by omega)]; exact id), cl_io (by omega)]
      show (if yw y' ≤ i then q + 1 else ups (xp (ya y')) (yc y') 0 i) = _ ∧ (if yw y' ≤ i then yh y else ups (xu (ya y')) (yc y') 0 i) = _
      by_cases c2 : yw y' ≤ i
      · rw [if_pos c2, if_pos c2, if_pos c2, if_pos c2]; exact ⟨rfl, rfl⟩
      · rw [if_neg c2, if_neg c2, if_neg c2, if_neg c2]
        unfold ups
        rw [if_neg (by omega), if_neg (by omega)]; exact ⟨rfl, rfl⟩
    rw [← hA]
    refine ⟨rfl, rfl, s3, by show yc y ≤ yc y' + 1; omega, ?_, fun r => ?_, fun e => ?_, fun i hi => ?_, fun i i' h1 h2 h3 => ?_, fun i h1 h2 => ?_⟩
    · show wkW (yw y') (yc y' + 1) (gho (yg y) (yh y / 8)) ≤ yc y' + 1
      unfold wkW; split <;> omega
    · show usm (ups (yu y') k (uRise (yu y' k) (yh y)) r) (yu y r)
      unfold ups
      by_cases c : r = k
      · rw [if_pos c, c]; exact s6 k
      · rw [if_neg c]; exact s6 r
    · show wkW (yw y') (yc y' + 1) (gho (yg y) (yh y / 8)) = yw y
      unfold wkW; rw [if_pos e]; exact s7 e
    · show xq A i = _ ∧ xt A i = _ ∧ xa A i = _
      rw [eqo i (by omega), eto i (by omega), eao i (by omega)]; exact s8 i hi
    · show xq A i < xq A i'
      have h3' : i' < yc y' + 1 := h3
      rw [eqo i (by omega)]
      rcases (by omega : i' < yc y' ∨ i' = yc y') with c | c
      · rw [eqo i' c]; exact s9 i i' h1 h2 c
      · rw [c, eqc]; exact (s10 i h1 (by omega)).1
    · have h2' : i < yc y' + 1 := h2
      show xq A i < k + 1 ∧ xt A i = yh y ∧ xa A i = 0 ∧ ud (yu y (xq A i)) = 0 ∧ silB (us (yu y (xq A i))) (yh y) = false ∧ valQ (ev L (pks L m (yh y + 1 - uw (yu y (xq A i))) (yh y) (yh y - 1))) (uc (yu y (xq A i))) ≠ 0 ∧ ∀ q, q < 8 → gho (yg y) (yh y / 8) = io q → xp A i = q + 1 ∧ xu A i = yh y
      rcases (by omega : i < yc y' ∨ i = yc y') with c | c
      · obtain ⟨t1, t2, t3, t4, t5, t6, t7⟩ := s10 i h1 c
        rw [eqo i c, eto i c, eao i c]
        refine ⟨by omega, t2, t3, t4, t5, t6, fun q hq e => ?_⟩
        obtain ⟨p1, p2⟩ := epu q hq e i (by omega)
        rw [p1, p2]
        obtain ⟨t8, t9⟩ := t7 q hq e
        rw [t8, t9]
        constructor
        · split <;> rfl
        · split <;> rfl
      · subst c
        rw [eqc, etc', eac]
        refine ⟨by omega, rfl, rfl, hd, hdue.2.1, hdue.2.2, fun q hq e => ?_⟩
        obtain ⟨p1, p2⟩ := epu q hq e (yc y') (Nat.le_refl _)
        rw [p1, p2, if_pos s5, if_pos s5]; exact ⟨rfl, rfl⟩
  · rw [if_neg hc]
    refine ⟨s1, s2, s3, s4, s5, s6, s7, s8, s9, fun i h1 h2 => ?_⟩
    obtain ⟨t1, t2⟩ := s10 i h1 h2
    exact ⟨by omega, t2⟩
theorem RSI.all {L : Nat → LR} {m : Nat} {y : GS} (hw : yw y ≤ yc y) : ∀ k, RSI L m y (grs L m y k) k := by
  intro k
  induction k with
  | zero => exact ⟨rfl, rfl, rfl, Nat.le_refl _, hw, fun r => ⟨rfl, rfl, rfl, rfl, rfl, rfl, rfl, rfl⟩, fun _ => rfl, fun i _ => ⟨rfl, rfl, rfl⟩, fun i i' h1 h2 h3 => by have h3' : i' < yc y := h3; omega, fun i h1 h2 => by have h2' : i < yc y := h2; omega⟩
  | succ k ih => exact ih.step
