/-! areAlarms, isSwapped, isAnswered -/
def IVx (c : Nat) : WD → LA → Prop := fun w A => LVx A w ∧ yd (vy w) ≤ c ∧ yc (vy w) ≤ 63
section AQ
variable {F Z : Nat} {s : St} {w : WD} {A : LA}
theorem C_alarm (H : CL s w A) {i : Nat} (hi : i < yc (vy w)) : RB (qc Z s (fun z => f_P_alarm F z s (io i))) (.inl (io (10000 * xq (ya (vy w)) i + xt (ya (vy w)) i))) s (ct s) w A := RB.cr H (W_alarm H.1 hi)
theorem C_woken (H : CL s w A) {i : Nat} (hi : i < yc (vy w)) : RB (qc Z s (fun z => f_P_woken F z s (io i))) (.inl (if i < yw (vy w) then io (xp (ya (vy w)) i - 1) else -io 1)) s (ct s) w A := RB.cr H (W_woken H.1 hi)
theorem C_wokenAt (H : CL s w A) {i : Nat} (hi : i < yc (vy w)) (h : i < yw (vy w)) : RB (qc Z s (fun z => f_P_wokenAt F z s (io i))) (.inl (io (xu (ya (vy w)) i))) s (ct s) w A := RB.cr H (W_wokenAt H.1 hi h)
theorem C_rises (H : CL s w A) {r : Nat} (hr : r < vR w) : RB (qc Z s (fun z => f_P_rises F z s (io r))) (.inl (io (un (yu (vy w) r)))) s (ct s) w A := RB.cr H (W_rises H.1 hr)
theorem C_inWindow (hF : 5000 ≤ F) (H : CL s w A) {r : Nat} (hr : r < vR w) : RB (qc Z s (fun z => f_P_inWindow F z s (io r))) (.inl (io (winN w r))) s (ct s) w A := RB.c0 H (W_inWindow hF H.1 hr)
theorem Q115 (H : CL s w A) (hL : LVx A w) {r k t0 t1 : Nat} {l4 : Int32} {K : St → Int32 → Int32 → Int32 → Int32 → Int32 → Option (Int32 × St)} {C : Nat} (hk : k < yc (vy w)) (hc : ct s ≤ C)
    (kk : ∀ s1, CL s1 w A → ct s1 ≤ C → RB (K s1 (io r) l4 (io (t0 + t1)) 1 (io (k + 1))) 1 s1 C w A) : RB (f_L_areAlarms_b115 F Z K s (io r) l4 1 (io k) (io (xt (ya (vy w)) k)) (io t0) (io t1)) 1 s C w A := by
  have hh := hL.2.2.2.2.2.2.2
  have hN := hL.2.2.2.2.2.1
  have hn := H.1.n.2
  obtain ⟨q1, q2, q3, q4, q5⟩ := H.1.ag hk
  have e1 : io t0 + io t1 = io (t0 + t1) := io_add _ _
  have e2 : io k + 1 = io (k + 1) := io_add _ _
  rw [f_L_areAlarms_b115, if_neg (show ¬ (1 : Int32) = 0 by decide), e1, e2]
  have hw := C_woken (F := F) (Z := Z) H hk
  by_cases h : k < yw (vy w)
  · rw [if_pos h] at hw
    have hq5 : 1 ≤ xp (ya (vy w)) k ∧ xp (ya (vy w)) k ≤ vn w ∧ xu (ya (vy w)) k ≤ yh (vy w) := by
      rcases q5 with q5 | q5
      · exact q5.2
      · omega
    obtain ⟨m1, m2⟩ := hN.2.2.2.2.2.2.2 k h
    have e8 : io (xu (ya (vy w)) k) / 8 = io (xu (ya (vy w)) k / 8) := io_div (by omega) (b := 8) (by decide)
    refine RB.tk hw (fun s1 c1 d1 d2 => ?_)
    dsimp only
    rw [if_neg (nn0 (by omega))]
    refine RB.tk (C_wokenAt (F := F) (Z := Z) c1 hk h) (fun s2 c2 d3 d4 => ?_)
    dsimp only
    rw [e8]
    have hho := C_holder (F := F) (Z := Z) c2 (j := xu (ya (vy w)) k / 8) (Nat.div_le_div_right hq5.2.2)
    rw [m1] at hho
    refine RB.tk hho (fun s3 c3 d5 d6 => ?_)
    dsimp only
    have hw3 := C_woken (F := F) (Z := Z) c3 hk
    rw [if_pos h] at hw3
    refine RB.tk hw3 (fun s4 c4 d7 d8 => ?_)
    dsimp only
    rw [if_pos rfl]
    refine RB.tk (C_wokenAt (F := F) (Z := Z) c4 hk h) (fun s5 c5 d9 d10 => ?_)
    dsimp only
    rw [if_neg (show ¬ io (xu (ya (vy w)) k) < io (xt (ya (vy w)) k) by rw [io_lt (by omega) (by omega)]; omega)]
    exact kk s5 c5 (by omega)
  · rw [if_neg h] at hw
    refine RB.tk hw (fun s1 c1 d1 d2 => ?_)
    dsimp only
    rw [if_pos neg_lits.2.2.1]
    exact kk s1 c1 (by omega)
theorem Q_alarms (hL : LVx A w) (hc9 : yc (vy w) ≤ 63) {r : Nat} (hr : r < vR w) {C : Nat} : ∀ (j N k : Nat) (s : St) (l4 : Int32), k + j = yc (vy w) → j < N → ct s ≤ C → (l4 = -1000 ∨ ∃ i, i < k ∧ l4 = io (xt (ya (vy w)) i) ∧ xq (ya (vy w)) i = r) → CL s w A →
    RB (f_L_areAlarms_b14 F Z N s (io r) l4 (io (cnt (fun i => decide (xq (ya (vy w)) i = r)) k)) 1 (io k)) 1 s C w A := by
  have hh := hL.2.2.2.2.2.2.2
  have hN9 := hL.2.2.2.2.2.1
  intro j
  induction j with
  | zero =>
    intro N k s l4 hk hN hc hl H
    obtain ⟨N, rfl⟩ : ∃ N', N = N' + 1 := ⟨N - 1, by omega⟩
    have hk' : k = yc (vy w) := by omega
    subst hk'
    rw [f_L_areAlarms_b14]
    refine RB.pl (W_alarms (F := F) H.1) H (fun s1 c1 d1 => ?_)
    dsimp only
    rw [if_pos (Int32.le_refl _), if_neg (show ¬ (1 : Int32) = 0 by decide)]
    have hu := C_rises (F := F) (Z := Z) c1 hr
    rw [hN9.2.2.2.2.2.2.1 r hr] at hu
    refine RB.tk hu (fun s2 c2 d2 d3 => ?_)
    dsimp only
    rw [if_pos rfl]
    exact RB.ret c2 (by omega)
  | succ j ih =>
    intro N k s l4 hk hN hc hl H
    obtain ⟨N, rfl⟩ : ∃ N', N = N' + 1 := ⟨N - 1, by omega⟩
    have hkc : k < yc (vy w) := by omega
    obtain ⟨q1, q2, q3, q4, q5⟩ := H.1.ag hkc
    have hR := H.1.r.2
    rw [f_L_areAlarms_b14]
    refine RB.pl (W_alarms (F := F) H.1) H (fun s1 c1 d1 => ?_)
    dsimp only
    rw [if_neg (show ¬ io (yc (vy w)) ≤ io k by rw [io_le (by omega) (by omega)]; omega), if_neg (show ¬ (1 : Int32) = 0 by decide)]
    refine RB.tk (C_alarm (F := F) (Z := Z) c1 hkc) (fun s2 c2 d2 d3 => ?_)
    dsimp only
    refine RB.tk (C_alarm (F := F) (Z := Z) c2 hkc) (fun s3 c3 d4 d5 => ?_)
    dsimp only
    obtain ⟨q, hq⟩ : ∃ q, q = xq (ya (vy w)) k := ⟨_, rfl⟩
    obtain ⟨t, ht⟩ : ∃ t, t = xt (ya (vy w)) k := ⟨_, rfl⟩
    rw [← hq, ← ht]
    rw [← hq] at q1
    rw [← ht] at q2 q3
    have ed : io (10000 * q + t) / 10000 = io q := by
      have : io (10000 * q + t) / io 10000 = io ((10000 * q + t) / 10000) := io_div (by omega) (by decide)
      rw [show (10000 * q + t) / 10000 = q by omega] at this; exact this
    have em : io (10000 * q + t) - io (10000 * q + t) / 10000 * 10000 = io t := by
      have : io (10000 * q + t) - io (10000 * q + t) / io 10000 * io 10000 = io ((10000 * q + t) % 10000) := md9 10000 (by omega) (by decide)
      rw [show (10000 * q + t) % 10000 = t by omega] at this; exact this
    rw [em, ed]
    have hs : cnt (fun i => decide (xq (ya (vy w)) i = r)) (k + 1) = cnt (fun i => decide (xq (ya (vy w)) i = r)) k + if q = r then 1 else 0 := by
      rw [hq]
      show _ + _ = _
      by_cases h : xq (ya (vy w)) k = r <;> simp [h]
    by_cases hqr : q = r
    · have e12 : ((12 : Int32) * io r) + 2 = io (12 * r + 2) := by
        have h1 : (12 : Int32) * io r = io (12 * r) := io_mul 12 r
        rw [h1]; exact io_add _ _
      have eR := (hL.2.2.2.1.1 r hr).2.2.1
      rw [if_pos (by rw [hqr]), f_L_areAlarms_b59, if_neg (show ¬ (1 : Int32) = 0 by decide), e12, ix_io (show 12 * r + 2 < 48 by omega) (by decide), Option.bind_some, c3.2 42 (by decide), eR]
      have hur := (H.1.ru.2.1.2.1 r hr).2.2.2.2.2.1
      have hcond : ¬ io t - l4 ≤ io (ur (yu (vy w) r)) := by
        rcases hl with rfl | ⟨i, hi, rfl, hi2⟩
        · have : io t - -1000 = io (t + 1000) := by
            rw [Int32.sub_eq_add_neg]
            exact io_add t 1000
          rw [this, io_le (by omega) (by omega)]; omega
        · have h5 := hN9.2.2.2.2.1 i k hi hkc (by rw [hi2, ← hq, hqr])
          rw [hi2, ← ht] at h5
          rw [io_sub (by omega), io_le (by omega) (by omega)]; omega
      rw [if_neg hcond, f_L_areAlarms_b87, if_neg (show ¬ (1 : Int32) = 0 by decide), if_neg (show ¬ (1 : Int32) = 0 by decide)]
      have hb := Q115 (F := F) (Z := Z) c3 hL (r := r) (k := k) (t0 := cnt (fun i => decide (xq (ya (vy w)) i = r)) k) (t1 := 1) (l4 := io t) (K := f_L_areAlarms_b14 F Z N) (C := C) hkc (by omega) (fun s4 c4 d6 => by
        have := ih N (k + 1) s4 (io t) (by omega) (by omega) d6 (Or.inr ⟨k, by omega, by rw [ht], by rw [← hq, hqr]⟩) c4
        rw [hs, if_pos hqr] at this
        exact this)
      rw [← ht] at hb
      exact hb
    · rw [if_neg (show ¬ io q = io r by rw [io_eq (by omega) (by omega)]; exact hqr), f_L_areAlarms_b59, if_pos rfl, f_L_areAlarms_b87, if_pos rfl, if_pos rfl]
      have hb := Q115 (F := F) (Z := Z) c3 hL (r := r) (k := k) (t0 := cnt (fun i => decide (xq (ya (vy w)) i = r)) k) (t1 := 0) (l4 := l4) (K := f_L_areAlarms_b14 F Z N) (C := C) hkc (by omega) (fun s4 c4 d6 => by
        have := ih N (k + 1) s4 l4 (by omega) (by omega) d6 (by
          rcases hl with h | ⟨i, hi, h1, h2⟩
          · exact Or.inl h
          · exact Or.inr ⟨i, by omega, h1, h2⟩) c4
        rw [hs, if_neg hqr] at this
        exact this)
      rw [← ht] at hb
      exact hb
theorem L_areAlarms (H : CL s w A) (hF : 5000 ≤ F) {c : Nat} (hI : IVx c w A) {r : Nat} (hr : r < vR w) : RB (f_L_areAlarms F Z s (io r)) 1 s (ct s) w A := by
  rw [f_L_areAlarms]
  exact Q_alarms hI.1 hI.2.2 hr (yc (vy w)) F 0 s (-1000) (by omega) (by have := hI.2.2; omega) (Nat.le_refl _) (Or.inl rfl) H
/-- isSwapped -/
theorem Q124 (H : CL s w A) {l5 l6 l8 : Int32} {j : Nat} (h1 : yh (vy w) / 8 < j) (h2 : j < 126) (hp : plan2 (yg (vy w)) (vn w) j = if l8 = 0 then l5 else l6) {v : Int32} : RB (f_L_isSwapped_b124 F Z s (io j) l5 l6 l8 v v) 1 s (ct s) w A := by
  rw [f_L_isSwapped_b124, if_pos rfl]
  refine RB.tk (C_planned (F := F) (Z := Z) H h1 h2) (fun s1 c1 d1 d2 => ?_)
  dsimp only
  by_cases h : l8 = 0
  · rw [if_pos h] at hp ⊢
    rw [if_pos hp]; exact RB.ret c1 d2
  · rw [if_neg h] at hp ⊢
    rw [if_pos hp]; exact RB.ret c1 d2
theorem Q100 (H : CL s w A) {l5 l6 l8 : Int32} {i j : Nat} (h1 : yh (vy w) / 8 < i) (h2 : i < 126) (h3 : yh (vy w) / 8 < j) (h4 : j < 126) (hp : plan2 (yg (vy w)) (vn w) i = if l8 = 0 then l6 else l5) (hp2 : plan2 (yg (vy w)) (vn w) j = if l8 = 0 then l5 else l6) : RB (f_L_isSwapped_b100 F Z s (io i) (io j) l5 l6 l8 1) 1 s (ct s) w A := by
  rw [f_L_isSwapped_b100, if_neg (show ¬ (1 : Int32) = 0 by decide)]
  refine RB.tk (C_planned (F := F) (Z := Z) H h1 h2) (fun s1 c1 d1 d2 => ?_)
  dsimp only
  have h := Q124 (F := F) (Z := Z) c1 h3 h4 hp2 (v := plan2 (yg (vy w)) (vn w) i)
  by_cases h8 : l8 = 0
  · rw [if_pos h8] at hp ⊢
    rw [hp] at h ⊢
    exact h.le d2
  · rw [if_neg h8] at hp ⊢
    rw [hp] at h ⊢
    exact h.le d2
theorem plan_swp {g : RG} {n i j a b : Nat} (hn : n ≠ 0) (hij : i ≠ j) (ha : a < 8) (hb : b < 8) : plan2 (gswp g i j a b) n i = io b ∧ plan2 (gswp g i j a b) n j = io a := by
  have e1 : gsw (gswp g i j a b) i = io b := by
    show ups (ups (gsw g) i (io b)) j (io a) i = io b
    unfold ups
    rw [if_neg hij, if_pos rfl]
  have e2 : gsw (gswp g i j a b) j = io a := by
    show ups (ups (gsw g) i (io b)) j (io a) j = io a
    unfold ups
    rw [if_pos rfl]
  unfold plan2
  rw [if_neg hn, if_neg hn, e1, e2, if_neg (by rw [io_neg1 (by omega)]; exact id), if_neg (by rw [io_neg1 (by omega)]; exact id)]
  exact ⟨rfl, rfl⟩
theorem L_isSwapped (H : CL s w A) {c : Nat} (hI : IVx c w A) {i j : Nat} (h1 : yh (vy w) / 8 < i) (h2 : i < 64) (h3 : yh (vy w) / 8 < j) (h4 : j < 64) (hZ : ct s + 1 ≤ Z) : RPx (f_L_isSwapped F Z s (io i) (io j)) 1 s (ct s + 1) (IVx c) := by
  have hL := hI.1
  obtain ⟨G, K⟩ := H.g
  have hn := H.1.n.2
  have i0 : ¬ (1 : Int32) = 0 := by decide
  have m2 : ¬ (-1242 : Int32) = 0 := by decide
  have m3 : ¬ (-1243 : Int32) = 0 := by decide
  rw [f_L_isSwapped]
  refine RPx.tk (C_planned (F := F) (Z := Z) H h1 (by omega)) (fun s1 c1 d1 d2 => ?_)
  dsimp only
  refine RPx.tk (C_planned (F := F) (Z := Z) c1 h3 (by omega)) (fun s2 c2 d3 d4 => ?_)
  dsimp only
  obtain ⟨pi, hpi⟩ : ∃ p, p = plan2 (yg (vy w)) (vn w) i := ⟨_, rfl⟩
  obtain ⟨pj, hpj⟩ : ∃ p, p = plan2 (yg (vy w)) (vn w) j := ⟨_, rfl⟩
  rw [← hpi, ← hpj]
  -- not to be swapped
  have no : (i ≠ j → vn w = 0 ∨ ∃ a b, a < vn w ∧ b < vn w ∧ plan2 (yg (vy w)) (vn w) i = io a ∧ plan2 (yg (vy w)) (vn w) j = io b ∧ (a = b ∨ ofb (yg (vy w)) a j = io 1 ∨ ofb (yg (vy w)) b i = io 1)) → RPx (f_L_isSwapped_b55 F Z s2 (io i) (io j) pi pj 0) 1 s2 (ct s + 1) (IVx c) := fun hno => by
    rw [f_L_isSwapped_b55]
    by_cases hij : i = j
    · rw [if_pos (by rw [hij])]
      refine RPx.cal (A_swap_x0 (F := F) (Z := Z) c2 (by omega) (x := io i) (y := io j) (Or.inr (Or.inr (by rw [hij])))) (by omega) (fun s3 c3 d5 d6 => ?_)
      dsimp only
      rw [if_pos rfl]
      exact (RB.rp (Q100 (F := F) (Z := Z) c3 h1 (by omega) h3 (by omega) (by rw [if_neg m2]; exact hpi.symm) (by rw [if_neg m2]; exact hpj.symm)) hI).le (by omega)
    · rw [if_neg (show ¬ io i = io j by rw [io_eq (by omega) (by omega)]; exact hij), if_pos rfl]
      refine RPx.cal (A_swap_x1 (F := F) (Z := Z) c2 (by omega) h1 (by omega) h3 (by omega) hij (hno hij)) (by omega) (fun s3 c3 d5 d6 => ?_)
      dsimp only
      rw [if_pos rfl]
      exact (RB.rp (Q100 (F := F) (Z := Z) c3 h1 (by omega) h3 (by omega) (by rw [if_neg m3]; exact hpi.symm) (by rw [if_neg m3]; exact hpj.symm)) hI).le (by omega)
  by_cases hz : vn w = 0
  · have e : pi = -io 1 := by rw [hpi]; unfold plan2; rw [if_pos hz]
    rw [if_pos (show pi < 0 by rw [e]; exact neg_lits.2.2.1)]
    exact no (fun _ => Or.inl hz)
  · obtain ⟨a, ha, ea⟩ := plan2_some G (show i < 126 by omega) hz
    obtain ⟨b, hb, eb⟩ := plan2_some G (show j < 126 by omega) hz
    have ea' := hpi.trans ea
    have eb' := hpj.trans eb
    have gi := (G i (by omega)).2.1
    have gj := (G j (by omega)).2.1
    rw [if_neg (show ¬ pi < 0 by rw [ea']; exact nn0 (by omega))]
    by_cases hab : a = b
    · rw [if_pos (show pi = pj by rw [ea', eb', hab])]
      exact no (fun _ => Or.inr ⟨a, b, ha, hb, ea, eb, Or.inl hab⟩)
    · rw [if_neg (show ¬ pi = pj by rw [ea', eb', io_eq (by omega) (by omega)]; exact hab), ix_io (show j < 64 by omega) (by decide), Option.bind_some, c2.2 41 (by decide), hL.2.2.1 j h4, ea', bitq gj (by omega)]
      by_cases o1 : (gof (yg (vy w)) j).testBit a = true
      · rw [if_pos o1, if_neg (show ¬ io 1 = 0 by decide), ← ea']
        exact no (fun _ => Or.inr ⟨a, b, ha, hb, ea, eb, Or.inr (Or.inl (by unfold ofb; rw [if_pos o1]))⟩)
      · rw [if_neg o1, if_pos (show io 0 = 0 from rfl), ix_io (show i < 64 by omega) (by decide), Option.bind_some, hL.2.2.1 i h2, eb', bitq gi (by omega)]
        by_cases o2 : (gof (yg (vy w)) i).testBit b = true
        · rw [if_pos o2, if_neg (show ¬ io 1 = 0 by decide), ← ea', ← eb']
          exact no (fun _ => Or.inr ⟨a, b, ha, hb, ea, eb, Or.inr (Or.inr (by unfold ofb; rw [if_pos o2]))⟩)
        · rw [if_neg o2, if_pos (show io 0 = 0 from rfl), f_L_isSwapped_b55]
          have hij : i ≠ j := fun e => hab (by
            have : io a = io b := by rw [← ea, ← eb, e]
            exact io_inj (by omega) (by omega) this)
          rw [if_neg (show ¬ io i = io j by rw [io_eq (by omega) (by omega)]; exact hij), if_neg i0]
          refine RPx.cal (A_swap (F := F) (Z := Z) c2 h1 (by omega) h3 (by omega) hij ha hb ea eb hab (by unfold ofb; rw [if_neg o1]) (by unfold ofb; rw [if_neg o2])) (by omega) (fun s3 c3 d5 d6 => ?_)
          dsimp only
          rw [if_pos rfl]
          obtain ⟨p1, p2⟩ := plan_swp (g := yg (vy w)) hz hij (show a < 8 by omega) (show b < 8 by omega)
          obtain ⟨⟨lp, lg, lf, lr, la, ln, lm, ly⟩, i2, i3⟩ := hI
          exact (RB.rp (Q100 (F := F) (Z := Z) c3 h1 (show i < 126 by omega) h3 (show j < 126 by omega) (by rw [if_pos rfl]; exact p1) (by rw [if_pos rfl]; exact p2)) ⟨⟨lp, lg, lf, lr, la, ln.swp i j a b, lm, ly⟩, i2, i3⟩).le (by omega)
end AQ
