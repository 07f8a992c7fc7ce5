/-! hours that come: the ghosts -/
abbrev GS : Type := Nat × RG × Nat × AG × Nat × Nat × (Nat → RU)
def yh (y : GS) : Nat := y.1
def yg (y : GS) : RG := y.2.1
def yd (y : GS) : Nat := y.2.2.1
def ya (y : GS) : AG := y.2.2.2.1
def yc (y : GS) : Nat := y.2.2.2.2.1
def yw (y : GS) : Nat := y.2.2.2.2.2.1
def yu (y : GS) : Nat → RU := y.2.2.2.2.2.2
def uRise (x : RU) (H : Nat) : RU := (uq x, uc x, uo x, uw x, ur x, um x, ud x, us x, un x + 1, H + 1)
def gB (n : Nat) (y : GS) : GS := if (yh y + 1) % 8 = 0 then (yh y + 1, gbeg (yg y) n (yd y) ((yh y + 1) / 8), dbeg (yg y) n (yd y) ((yh y + 1) / 8), wkA (ya y) (yw y) (hold2 (yg y) n (yd y) ((yh y + 1) / 8)) (yh y + 1), yc y, wkW (yw y) (yc y) (hold2 (yg y) n (yd y) ((yh y + 1) / 8)), yu y) else (yh y + 1, yg y, yd y, ya y, yc y, yw y, yu y)
def gr1 (L : Nat → LR) (m : Nat) (y : GS) (r : Nat) : GS := if ud (yu y r) = 0 ∧ dueB L m (yu y r) (yh y) (ul (yu y r)) = true then (yh y, yg y, yd y, wkA (anew (ya y) (yc y) r (yh y)) (yw y) (gho (yg y) (yh y / 8)) (yh y), yc y + 1, wkW (yw y) (yc y + 1) (gho (yg y) (yh y / 8)), ups (yu y) r (uRise (yu y r) (yh y))) else y
def grs (L : Nat → LR) (m : Nat) (y : GS) : Nat → GS
  | 0 => y
  | r + 1 => gr1 L m (grs L m y r) r
def gH (L : Nat → LR) (m n R : Nat) (y : GS) : GS := grs L m (gB n y) R
def gP (L : Nat → LR) (m n R : Nat) (y : GS) : Nat → GS
  | 0 => y
  | k + 1 => gH L m n R (gP L m n R y k)
def GF (L : Nat → LR) (m n R : Nat) (y : GS) : Prop := yh y ≤ 1000 ∧ ROg (yg y) (yh y) n ∧ DBg (yg y) n (yd y) ∧ ALg (ya y) (yh y) n R (yc y) (yw y) ∧ (gho (yg y) (yh y / 8) = -io 1 ∨ yw y = yc y) ∧ RUg (yu y) R (yh y) n ∧ HS L m (yu y) R (yh y) ∧ yc y = csum (yu y) R ∧ LGg L m (yh y)
def GI (L : Nat → LR) (m n R : Nat) (y : GS) (k : Nat) : Prop := 1 ≤ yh y ∧ yh y ≤ 1000 ∧ ROg (yg y) (yh y) n ∧ DBg (yg y) n (yd y) ∧ ALg (ya y) (yh y) n R (yc y) (yw y) ∧ (gho (yg y) (yh y / 8) = -io 1 ∨ yw y = yc y) ∧ RUg (yu y) R (yh y) n ∧ (∀ r, r < R → um (yu y r) < yh y) ∧ (∀ r, r < R → rcn L m (yu y r) (uend (yu y r) (if r < k then yh y else yh y - 1) - um (yu y r)) = (un (yu y r), ul (yu y r))) ∧ yc y = csum (yu y) R ∧ LGg L m (yh y - 1)
theorem LGg.mono {L : Nat → LR} {m h h' : Nat} (G : LGg L m h) (hh : h ≤ h') : LGg L m h' := ⟨G.1, fun k hk => by
  obtain ⟨a, b, c, d, e, f, g⟩ := G.2.1 k hk
  exact ⟨a, b, c, d, e, by omega, g⟩, G.2.2⟩
theorem ALg.hr {a : AG} {h h' n r c w : Nat} (G : ALg a h n r c w) (hh : h ≤ h') : ALg a h' n r c w := ⟨G.1, G.2.1, G.2.2.1, fun i hi => by
  obtain ⟨a1, a2, a3, a4, a5⟩ := G.2.2.2 i hi
  refine ⟨a1, a2, by omega, a4, ?_⟩
  rcases a5 with ⟨b1, b2, b3, b4⟩ | a5
  · exact Or.inl ⟨b1, b2, b3, by omega⟩
  · exact Or.inr a5⟩
theorem RG1.hr {x : RU} {h h' n : Nat} (G : RG1 h n x) (hh : h ≤ h') : RG1 h' n x := by
  obtain ⟨g1, g2, g3, g4, g5, g6, g7, g8, g9, g10, g11, g12, g13⟩ := G
  exact ⟨g1, g2, g3, g4, g5, g6, by omega, by omega, g9, g10, g11, by omega, by omega⟩
theorem RUg.hr {u : Nat → RU} {R h h' n : Nat} (G : RUg u R h n) (hh : h ≤ h') : RUg u R h' n := ⟨G.1, fun r hr => (G.2.1 r hr).hr hh, G.2.2⟩
theorem ROg.hr {g : RG} {h h' n : Nat} (G : ROg g h n) (hh : h ≤ h') : ROg g h' n := fun j hj => by
  obtain ⟨a, b, c, d⟩ := G j hj
  exact ⟨a, b, c, fun e => d (by omega)⟩
theorem GF.begin {L : Nat → LR} {m n R : Nat} {y : GS} (G : GF L m n R y) (hn : n ≤ 8) (h1 : yh y + 1 ≤ 1000) : GI L m n R (gB n y) 0 := by
  obtain ⟨a1, a2, a3, a4, a5, a6, a7, a8, a9⟩ := G
  have hj : (yh y + 1) / 8 < 126 := by omega
  have hum : ∀ r, r < R → um (yu y r) < yh y + 1 := fun r hr => by have := (a6.2.1 r hr).2.2.2.2.2.2.1; omega
  have hrc : ∀ r, r < R → rcn L m (yu y r) (uend (yu y r) (if r < 0 then yh y + 1 else yh y + 1 - 1) - um (yu y r)) = (un (yu y r), ul (yu y r)) := fun r hr => by
    rw [if_neg (Nat.not_lt_zero r), Nat.add_sub_cancel]; exact a7 r hr
  have hlg : LGg L m (yh y + 1 - 1) := by rw [Nat.add_sub_cancel]; exact a9
  unfold gB
  by_cases h8 : (yh y + 1) % 8 = 0
  · rw [if_pos h8]
    have hnob := hold2_nob (d := yd y) a2 a3 hj hn
    refine ⟨by show 1 ≤ yh y + 1; omega, h1, a2.beg (h' := yh y + 1) a3 hn hj rfl (by omega), a3.beg, (a4.hr (by omega)).wake hn hnob, ?_, a6.hr (Nat.le_succ _), hum, hrc, a8, hlg⟩
    show gho (gbeg (yg y) n (yd y) ((yh y + 1) / 8)) ((yh y + 1) / 8) = -io 1 ∨ wkW (yw y) (yc y) (hold2 (yg y) n (yd y) ((yh y + 1) / 8)) = yc y
    rw [gbeg_ho]
    unfold ups wkW
    rw [if_pos rfl]
    by_cases e : hold2 (yg y) n (yd y) ((yh y + 1) / 8) = -io 1
    · exact Or.inl e
    · exact Or.inr (if_neg e)
  · rw [if_neg h8]
    refine ⟨by show 1 ≤ yh y + 1; omega, h1, a2.hr (Nat.le_succ _), a3, a4.hr (Nat.le_succ _), ?_, a6.hr (Nat.le_succ _), hum, hrc, a8, hlg⟩
    show gho (yg y) ((yh y + 1) / 8) = -io 1 ∨ yw y = yc y
    have e : (yh y + 1) / 8 = yh y / 8 := by omega
    rw [e]; exact a5
theorem csum_one {u : Nat → RU} {r : Nat} {x : RU} (hx : un x = un (u r) + 1) : ∀ R, r < R → csum (ups u r x) R = csum u R + 1 := by
  intro R
  induction R with
  | zero => intro h; omega
  | succ R ih =>
    intro h
    show csum (ups u r x) R + un (ups u r x R) = csum u R + un (u R) + 1
    by_cases e : R = r
    · have e2 : ∀ k, k ≤ R → csum (ups u r x) k = csum u k := by
        intro k
        induction k with
        | zero => intro _; rfl
        | succ k ih =>
          intro hk
          show csum (ups u r x) k + un (ups u r x k) = csum u k + un (u k)
          rw [ih (by omega)]
          unfold ups
          rw [if_neg (by omega)]
      rw [e2 R (Nat.le_refl _)]
      unfold ups
      rw [if_pos e, hx, ← e]; omega
    · rw [ih (by omega)]
      unfold ups
      rw [if_neg e]; omega
theorem csum_lt {u : Nat → RU} {k : Nat} : ∀ R, (∀ r, r < R → un (u r) ≤ 1000) → k < R → un (u k) ≤ 999 → csum u R + 1 ≤ 1000 * R := by
  have hle : ∀ R, (∀ r, r < R → un (u r) ≤ 1000) → csum u R ≤ 1000 * R := by
    intro R
    induction R with
    | zero => intro _; exact Nat.le_refl _
    | succ R ih =>
      intro h
      have := h R (by omega)
      have := ih (fun r hr => h r (by omega))
      show csum u R + un (u R) ≤ _
      omega
  intro R
  induction R with
  | zero => intro _ h; omega
  | succ R ih =>
    intro h hk h9
    show csum u R + un (u R) + 1 ≤ _
    by_cases e : k = R
    · subst e
      have := hle k (fun r hr => h r (by omega))
      omega
    · have := ih (fun r hr => h r (by omega)) (by omega) h9
      have := h R (by omega)
      omega
theorem GI.room {L : Nat → LR} {m n R k : Nat} {y : GS} (G : GI L m n R y k) (hk : k < R) (hd : ud (yu y k) = 0) : yc y < 4000 ∧ un (yu y k) ≤ yh y - 1 := by
  obtain ⟨a0, a1, a2, a3, a4, a5, a6, b1, b2, a8, a9⟩ := G
  have h2 := b2 k hk
  rw [if_neg (Nat.lt_irrefl k)] at h2
  have e : uend (yu y k) (yh y - 1) = yh y - 1 := if_pos hd
  rw [e] at h2
  have h3 := (rcn_le (L := L) (m := m) (x := yu y k) (yh y - 1 - um (yu y k))).1
  rw [h2] at h3
  have h3' : un (yu y k) ≤ yh y - 1 - um (yu y k) := h3
  have hR := a6.1
  have h4 := csum_lt (u := yu y) (k := k) R (fun r hr => by have := (a6.2.1 r hr).2.2.2.2.2.2.2.2.2.2.2.2; omega) hk (by omega)
  omega
theorem GI.step {L : Nat → LR} {m n R k : Nat} {y : GS} (G : GI L m n R y k) (hn : n ≤ 8) (hk : k < R) : GI L m n R (gr1 L m y k) (k + 1) := by
  have hroom := G.room hk
  obtain ⟨a0, a1, a2, a3, a4, a5, a6, b1, b2, a8, a9⟩ := G
  have hoth : ∀ r, r ≠ k → (if r < k + 1 then yh y else yh y - 1) = (if r < k then yh y else yh y - 1) := fun r hr => by
    by_cases e : r < k
    · rw [if_pos e, if_pos (by omega)]
    · rw [if_neg e, if_neg (by omega)]
  have h2 := b2 k hk
  rw [if_neg (Nat.lt_irrefl k)] at h2
  have hm := b1 k hk
  have hstep : ud (yu y k) = 0 → rcn L m (yu y k) (yh y - um (yu y k)) = if dueB L m (yu y k) (yh y) (ul (yu y k)) = true then (un (yu y k) + 1, yh y + 1) else (un (yu y k), ul (yu y k)) := fun hd => by
    have e : uend (yu y k) (yh y - 1) = yh y - 1 := if_pos hd
    rw [e] at h2
    have e1 : yh y - um (yu y k) = (yh y - 1 - um (yu y k)) + 1 := by omega
    rw [e1]
    unfold rcn
    rw [h2]
    have e2 : um (yu y k) + (yh y - 1 - um (yu y k)) + 1 = yh y := by omega
    have e3 : um (yu y k) + (yh y - 1 - um (yu y k)) + 2 = yh y + 1 := by omega
    rw [e2, e3]
  unfold gr1
  by_cases hc : ud (yu y k) = 0 ∧ dueB L m (yu y k) (yh y) (ul (yu y k)) = true
  · rw [if_pos hc]
    obtain ⟨hd, hdue⟩ := hc
    obtain ⟨r1, r2⟩ := hroom hd
    have hs := hstep hd
    rw [if_pos hdue] at hs
    have hnob : nob n (gho (yg y) (yh y / 8)) := (a2 (yh y / 8) (by omega)).2.2.1
    obtain ⟨g1, g2, g3, g4, g5, g6, g7, g8, g9, g10, g11, g12, g13⟩ := a6.2.1 k hk
    refine ⟨a0, a1, a2, a3, (a4.new r1 hk a0).wake hn hnob, ?_, a6.upd hk rfl ⟨g1, g2, g3, g4, g5, g6, g7, g8, g9, g10, ?_, Nat.le_refl _, ?_⟩, fun r hr => ?_, fun r hr => ?_, ?_, a9⟩
    · show gho (yg y) (yh y / 8) = -io 1 ∨ wkW (yw y) (yc y + 1) (gho (yg y) (yh y / 8)) = yc y + 1
      unfold wkW
      by_cases e : gho (yg y) (yh y / 8) = -io 1
      · exact Or.inl e
      · exact Or.inr (if_neg e)
    · show un (yu y k) + 1 = 0 ↔ yh y + 1 = 0
      omega
    · show un (yu y k) + 1 ≤ yh y
      omega
    · show um (ups (yu y) k (uRise (yu y k) (yh y)) r) < yh y
      by_cases e : r = k
      · have e2 : ups (yu y) k (uRise (yu y k) (yh y)) r = uRise (yu y k) (yh y) := if_pos e
        rw [e2]; exact hm
      · have e2 : ups (yu y) k (uRise (yu y k) (yh y)) r = yu y r := if_neg e
        rw [e2]; exact b1 r hr
    · show rcn L m (ups (yu y) k (uRise (yu y k) (yh y)) r) (uend (ups (yu y) k (uRise (yu y k) (yh y)) r) (if r < k + 1 then yh y else yh y - 1) - um (ups (yu y) k (uRise (yu y k) (yh y)) r)) = (un (ups (yu y) k (uRise (yu y k) (yh y)) r), ul (ups (yu y) k (uRise (yu y k) (yh y)) r))
      by_cases e : r = k
      · have e2 : ups (yu y) k (uRise (yu y k) (yh y)) r = uRise (yu y k) (yh y) := if_pos e
        have e3 : uend (uRise (yu y k) (yh y)) (yh y) = yh y := if_pos hd
        rw [e2, if_pos (by omega), e3]
        have e4 : rcn L m (uRise (yu y k) (yh y)) (yh y - um (yu y k)) = rcn L m (yu y k) (yh y - um (yu y k)) := rcn_congr (x := yu y k) (y := uRise (yu y k) (yh y)) rfl _ (fun th l _ _ => rfl)
        exact e4.trans hs
      · have e2 : ups (yu y) k (uRise (yu y k) (yh y)) r = yu y r := if_neg e
        rw [e2, hoth r e]; exact b2 r hr
    · show yc y + 1 = csum (ups (yu y) k (uRise (yu y k) (yh y))) R
      rw [csum_one rfl R hk, a8]
  · rw [if_neg hc]
    refine ⟨a0, a1, a2, a3, a4, a5, a6, b1, fun r hr => ?_, a8, a9⟩
    by_cases e : r = k
    · rw [e, if_pos (by omega)]
      by_cases hd : ud (yu y k) = 0
      · have e3 : uend (yu y k) (yh y) = yh y := if_pos hd
        rw [e3, hstep hd, if_neg (fun h => hc ⟨hd, h⟩)]
      · have e3 : uend (yu y k) (yh y) = uend (yu y k) (yh y - 1) := by unfold uend; rw [if_neg hd, if_neg hd]
        rw [e3]; exact h2
    · rw [hoth r e]; exact b2 r hr
theorem GI.full {L : Nat → LR} {m n R : Nat} {y : GS} (G : GI L m n R y R) : GF L m n R y := by
  obtain ⟨a0, a1, a2, a3, a4, a5, a6, b1, b2, a8, a9⟩ := G
  refine ⟨a1, a2, a3, a4, a5, a6, fun r hr => ?_, a8, a9.mono (by omega)⟩
  have := b2 r hr
  rwa [if_pos hr] at this
theorem gR_h {L : Nat → LR} {m : Nat} {y : GS} {r : Nat} : yh (gr1 L m y r) = yh y ∧ yd (gr1 L m y r) = yd y ∧ yc y ≤ yc (gr1 L m y r) ∧ yg (gr1 L m y r) = yg y := by
  unfold gr1
  by_cases hc : ud (yu y r) = 0 ∧ dueB L m (yu y r) (yh y) (ul (yu y r)) = true
  · rw [if_pos hc]; exact ⟨rfl, rfl, Nat.le_succ _, rfl⟩
  · rw [if_neg hc]; exact ⟨rfl, rfl, Nat.le_refl _, rfl⟩
theorem gB_h {n : Nat} {y : GS} : yh (gB n y) = yh y + 1 ∧ yd (gB n y) ≤ yd y ∧ yc (gB n y) = yc y := by
  unfold gB
  by_cases h8 : (yh y + 1) % 8 = 0
  · rw [if_pos h8]
    refine ⟨rfl, ?_, rfl⟩
    show dbeg (yg y) n (yd y) ((yh y + 1) / 8) ≤ yd y
    unfold dbeg
    split <;> omega
  · rw [if_neg h8]; exact ⟨rfl, Nat.le_refl _, rfl⟩
theorem gRs_h {L : Nat → LR} {m : Nat} {y : GS} : ∀ r, yh (grs L m y r) = yh y ∧ yd (grs L m y r) = yd y ∧ yc y ≤ yc (grs L m y r) ∧ yg (grs L m y r) = yg y := by
  intro r
  induction r with
  | zero => exact ⟨rfl, rfl, Nat.le_refl _, rfl⟩
  | succ r ih =>
    obtain ⟨i1, i2, i3, i4⟩ := ih
    obtain ⟨j1, j2, j3, j4⟩ := gR_h (L := L) (m := m) (y := grs L m y r) (r := r)
    exact ⟨j1.trans i1, j2.trans i2, Nat.le_trans i3 j3, j4.trans i4⟩
theorem gP_h {L : Nat → LR} {m n R : Nat} {y : GS} : ∀ k, yh (gP L m n R y k) = yh y + k ∧ yd (gP L m n R y k) ≤ yd y ∧ yc y ≤ yc (gP L m n R y k) := by
  intro k
  induction k with
  | zero => exact ⟨rfl, Nat.le_refl _, Nat.le_refl _⟩
  | succ k ih =>
    obtain ⟨i1, i2, i3⟩ := ih
    obtain ⟨b1, b2, b3⟩ := gB_h (n := n) (y := gP L m n R y k)
    obtain ⟨j1, j2, j3, -⟩ := gRs_h (L := L) (m := m) (y := gB n (gP L m n R y k)) R
    refine ⟨?_, ?_, ?_⟩
    · show yh (grs L m (gB n (gP L m n R y k)) R) = _
      omega
    · show yd (grs L m (gB n (gP L m n R y k)) R) ≤ _
      omega
    · show _ ≤ yc (grs L m (gB n (gP L m n R y k)) R)
      omega
theorem GI.steps {L : Nat → LR} {m n R : Nat} {y : GS} (G : GI L m n R y 0) (hn : n ≤ 8) : ∀ k, k ≤ R → GI L m n R (grs L m y k) k := by
  intro k
  induction k with
  | zero => intro _; exact G
  | succ k ih => intro h; exact (ih (by omega)).step hn (by omega)
theorem GF.hour {L : Nat → LR} {m n R : Nat} {y : GS} (G : GF L m n R y) (hn : n ≤ 8) (h1 : yh y + 1 ≤ 1000) : GF L m n R (gH L m n R y) := ((G.begin hn h1).steps hn R (Nat.le_refl _)).full
theorem GF.hours {L : Nat → LR} {m n R : Nat} {y : GS} (G : GF L m n R y) (hn : n ≤ 8) : ∀ k, yh y + k ≤ 1000 → GF L m n R (gP L m n R y k) := by
  intro k
  induction k with
  | zero => intro _; exact G
  | succ k ih =>
    intro h
    have := (gP_h (L := L) (m := m) (n := n) (R := R) (y := y) k).1
    exact (ih (by omega)).hour hn (by omega)
