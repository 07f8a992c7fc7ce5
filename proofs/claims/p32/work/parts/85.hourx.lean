/-! what an hour leaves of the world -/
theorem gB_all (n : Nat) (y : GS) : yh (gB n y) = yh y + 1 ∧ yu (gB n y) = yu y ∧ yc (gB n y) = yc y ∧ (∀ i, xq (ya (gB n y)) i = xq (ya y) i ∧ xt (ya (gB n y)) i = xt (ya y) i ∧ xa (ya (gB n y)) i = xa (ya y) i) ∧ gof (yg (gB n y)) = gof (yg y) := by
  unfold gB
  by_cases h : (yh y + 1) % 8 = 0
  · rw [if_pos h]
    refine ⟨rfl, rfl, rfl, fun i => ?_, gbeg_of _ _ _ _⟩
    show xq (wkA (ya y) _ _ _) i = _ ∧ xt (wkA (ya y) _ _ _) i = _ ∧ xa (wkA (ya y) _ _ _) i = _
    unfold wkA
    split <;> exact ⟨rfl, rfl, rfl⟩
  · rw [if_neg h]; exact ⟨rfl, rfl, rfl, fun i => ⟨rfl, rfl, rfl⟩, rfl⟩
/-- who holds in the hour to come -/
def duV (n : Nat) (y : GS) : Int32 := if (yh y + 1) % 8 = 0 then hold2 (yg y) n (yd y) ((yh y + 1) / 8) else gho (yg y) ((yh y + 1) / 8)
theorem gB_ho (n : Nat) (y : GS) : gho (yg (gB n y)) ((yh y + 1) / 8) = duV n y := by
  unfold gB duV
  by_cases h : (yh y + 1) % 8 = 0
  · rw [if_pos h, if_pos h]
    show gho (gbeg _ _ _ _) _ = _
    rw [gbeg_ho]; exact if_pos rfl
  · rw [if_neg h, if_neg h]; rfl
theorem gB_yd (n : Nat) (y : GS) : yd (gB n y) = if (yh y + 1) % 8 = 0 then dbeg (yg y) n (yd y) ((yh y + 1) / 8) else yd y := by
  unfold gB
  by_cases h : (yh y + 1) % 8 = 0
  · rw [if_pos h, if_pos h]; rfl
  · rw [if_neg h, if_neg h]; rfl
theorem gB_yw (n : Nat) (y : GS) : yw (gB n y) = if (yh y + 1) % 8 = 0 then wkW (yw y) (yc y) (duV n y) else yw y := by
  unfold gB duV
  by_cases h : (yh y + 1) % 8 = 0
  · rw [if_pos h, if_pos h, if_pos h]; rfl
  · rw [if_neg h, if_neg h]; rfl
section HF
variable {L : Nat → LR} {m n R : Nat} {y : GS}
theorem H_rs (G : GF L m n R y) (hn : n ≤ 8) (h1 : yh y + 1 ≤ 1000) : RSI L m (gB n y) (gH L m n R y) R := RSI.all (G.begin hn h1).2.2.2.2.1.2.2.1 R
/-- the hour, the holder, the debts -/
theorem H_ho (G : GF L m n R y) (hn : n ≤ 8) (h1 : yh y + 1 ≤ 1000) : yh (gH L m n R y) = yh y + 1 ∧ gho (yg (gH L m n R y)) ((yh y + 1) / 8) = duV n y ∧ yd (gH L m n R y) = yd (gB n y) ∧ yg (gH L m n R y) = yg (gB n y) := by
  obtain ⟨s1, s2, s3, -⟩ := H_rs G hn h1
  obtain ⟨b1, -⟩ := gB_all n y
  exact ⟨s1.trans b1, by rw [s2]; exact gB_ho n y, s3, s2⟩
theorem H_nob (G : GF L m n R y) (hn : n ≤ 8) (h1 : yh y + 1 ≤ 1000) : nob n (duV n y) := by
  obtain ⟨e1, e2, -⟩ := H_ho G hn h1
  have := (G.hour hn h1).2.1 ((yh y + 1) / 8) (by omega)
  rw [← e2]; exact this.2.2.1
/-- those that wait -/
theorem H_wait (G : GF L m n R y) (hn : n ≤ 8) (h1 : yh y + 1 ≤ 1000) : yc y ≤ yc (gH L m n R y) ∧ (duV n y = -io 1 → yw (gH L m n R y) = yw y) ∧ (duV n y ≠ -io 1 → yw (gH L m n R y) = yc (gH L m n R y) ∧ ((yh y + 1) % 8 ≠ 0 → yw y = yc y)) := by
  obtain ⟨s1, s2, s3, s4, s5, s6, s7, s8, s9, s10⟩ := H_rs G hn h1
  obtain ⟨b1, b2, b3, b4, b5⟩ := gB_all n y
  obtain ⟨e1, e2, e3, e4⟩ := H_ho G hn h1
  refine ⟨by rw [← b3]; exact s4, fun h => ?_, fun h => ⟨?_, fun h8 => ?_⟩⟩
  · rw [s7 (by rw [b1, gB_ho]; exact h), gB_yw]
    by_cases h8 : (yh y + 1) % 8 = 0
    · rw [if_pos h8]; unfold wkW; rw [if_pos h]
    · rw [if_neg h8]
  · have := (G.hour hn h1).2.2.2.2.1
    rw [e1, e2] at this
    exact this.resolve_left h
  · refine G.2.2.2.2.1.resolve_left (fun h9 => h ?_)
    unfold duV
    rw [if_neg h8, show (yh y + 1) / 8 = yh y / 8 by omega]; exact h9
/-- the alarms of the hour -/
theorem H_new (G : GF L m n R y) (hn : n ≤ 8) (h1 : yh y + 1 ≤ 1000) : (∀ i, i < yc y → xa (ya (gH L m n R y)) i = xa (ya y) i) ∧ (∀ r, usm (yu (gH L m n R y) r) (yu y r)) ∧
    (∀ i i', yc y ≤ i → i < i' → i' < yc (gH L m n R y) → xq (ya (gH L m n R y)) i < xq (ya (gH L m n R y)) i') ∧
    ∀ i, yc y ≤ i → i < yc (gH L m n R y) → xq (ya (gH L m n R y)) i < R ∧ xt (ya (gH L m n R y)) i = yh y + 1 ∧ xa (ya (gH L m n R y)) i = 0 ∧ ud (yu y (xq (ya (gH L m n R y)) i)) = 0 ∧ silB (us (yu y (xq (ya (gH L m n R y)) i))) (yh y + 1) = false ∧ valQ (ev L (pks L m (yh y + 1 + 1 - uw (yu y (xq (ya (gH L m n R y)) i))) (yh y + 1) (yh y))) (uc (yu y (xq (ya (gH L m n R y)) i))) ≠ 0 ∧ ∀ q, q < 8 → duV n y = io q → xp (ya (gH L m n R y)) i = q + 1 ∧ xu (ya (gH L m n R y)) i = yh y + 1 := by
  obtain ⟨s1, s2, s3, s4, s5, s6, s7, s8, s9, s10⟩ := H_rs G hn h1
  obtain ⟨b1, b2, b3, b4, b5⟩ := gB_all n y
  refine ⟨fun i hi => by rw [(s8 i (by rw [b3]; exact hi)).2.2]; exact (b4 i).2.2, fun r => by have := s6 r; rw [b2] at this; exact this, fun i i' h2 h3 h4 => s9 i i' (by rw [b3]; exact h2) h3 h4, fun i h2 h3 => ?_⟩
  have := s10 i (by rw [b3]; exact h2) h3
  rw [b1, b2, gB_ho, Nat.add_sub_cancel] at this
  exact this
theorem H_few (G : GF L m n R y) (hn : n ≤ 8) (h1 : yh y + 1 ≤ 1000) : yc (gH L m n R y) ≤ yc y + R := by
  obtain ⟨-, -, h3, h4⟩ := H_new G hn h1
  have h : ∀ j, yc y + j < yc (gH L m n R y) → j ≤ xq (ya (gH L m n R y)) (yc y + j) := by
    intro j
    induction j with
    | zero => intro _; exact Nat.zero_le _
    | succ j ih =>
      intro hj
      have i1 := ih (by omega)
      have i2 := h3 (yc y + j) (yc y + (j + 1)) (by omega) (by omega) hj
      omega
  by_cases hc : yc (gH L m n R y) ≤ yc y + R
  · exact hc
  · have a := h R (by omega)
    have b := (h4 (yc y + R) (by omega) (by omega)).1
    omega
/-- a debt less, or none -/
theorem H_debt (G : GF L m n R y) (N : GN n R y) (hn : n ≤ 8) (h1 : yh y + 1 ≤ 1000) :
    (yd (gH L m n R y) = yd y ∧ ((yh y + 1) % 8 ≠ 0 ∨ n = 0 ∨ ∃ q, q < n ∧ plan2 (yg y) n ((yh y + 1) / 8) = io q ∧ (duV n y = io q ∨ (gof (yg y) ((yh y + 1) / 8)).testBit q = true))) ∨
    (∃ q p, q < n ∧ p < n ∧ (yh y + 1) % 8 = 0 ∧ plan2 (yg y) n ((yh y + 1) / 8) = io q ∧ duV n y = io p ∧ p ≠ q ∧ (gof (yg y) ((yh y + 1) / 8)).testBit q = false ∧ (yh y + 1) / 8 % 3 = 0 ∧ 1 ≤ owe (yg y) (yd y) p q ∧ owe (yg (gH L m n R y)) (yd (gH L m n R y)) p q = owe (yg y) (yd y) p q - 1 ∧ yd (gH L m n R y) = yd y - 1 ∧ 1 ≤ yd y) := by
  obtain ⟨e1, e2, e3, e4⟩ := H_ho G hn h1
  have Gr := G.2.1
  have K := G.2.2.1
  have hd := K.1
  obtain ⟨j, hj⟩ : ∃ j, j = (yh y + 1) / 8 := ⟨_, rfl⟩
  have hj9 : j < 126 := by omega
  rw [e3, e4, gB_yd, ← hj]
  by_cases h8 : (yh y + 1) % 8 = 0
  · rw [if_pos h8]
    by_cases hz : n = 0
    · left
      refine ⟨?_, Or.inr (Or.inl hz)⟩
      unfold dbeg paid2
      rw [if_pos hz, if_pos rfl]
    · obtain ⟨q, hq, ep⟩ := plan2_some Gr hj9 hz
      have eu : duV n y = hold2 (yg y) n (yd y) j := by unfold duV; rw [if_pos h8, hj]
      by_cases ho : (gof (yg y) j).testBit q = true
      · left
        refine ⟨?_, Or.inr (Or.inr ⟨q, hq, ep, Or.inr ho⟩)⟩
        unfold dbeg
        rw [if_pos (paid2_off Gr K hj9 hn hq ep ho)]
      · have ho' : (gof (yg y) j).testBit q = false := by simpa using ho
        rcases hold2_first Gr K hj9 hn hq ep ho' with ⟨h2, h3⟩ | ⟨i, hi, h2, h3, h4, h5⟩
        · left
          refine ⟨?_, Or.inr (Or.inr ⟨q, hq, ep, Or.inl (by rw [eu, h3])⟩)⟩
          unfold dbeg
          rw [if_pos h2]
        · right
          have hne := N.2.2.2.1 i hi
          obtain ⟨k1, k2⟩ := K.2 i hi
          have hpos := owe_pos (g := yg y) hi
          rw [h4] at hpos hne
          have hnp : ¬ paid2 (yg y) n (yd y) j = -io 1 := by rw [h2, io_neg1 (by omega)]; exact id
          have hdb : dbeg (yg y) n (yd y) j = yd y - 1 := by unfold dbeg; rw [if_neg hnp]
          refine ⟨q, gda (yg y) i, hq, k1, h8, ep, by rw [eu, h3], hne, ho', h5, hpos, ?_, hdb, by omega⟩
          rw [hdb]
          have eg : yg (gB n y) = gbeg (yg y) n (yd y) j := by unfold gB; rw [if_pos h8, hj]; rfl
          rw [eg]
          unfold gbeg
          rw [if_neg hnp, h2, cl_io (by omega)]
          unfold owe
          show cnt (fun k => decide (rmv (gda (yg y)) i k = gda (yg y) i ∧ rmv (gdb (yg y)) i k = q)) (yd y - 1) = _
          have hr := cnt_rmv (p := fun k => decide (gda (yg y) k = gda (yg y) i ∧ gdb (yg y) k = q)) (f := gda (yg y)) (yd y - 1) i (by omega)
          rw [show yd y - 1 + 1 = yd y by omega, if_pos (by simp [h4])] at hr
          rw [← hr, Nat.add_sub_cancel]
          refine cnt_ext fun k _ => ?_
          unfold rmv
          by_cases hk : k < i
          · simp only [hk, if_true]
          · simp only [hk, if_false]
  · rw [if_neg h8]
    exact Or.inl ⟨rfl, Or.inl h8⟩
end HF
