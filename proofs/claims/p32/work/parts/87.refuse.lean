/-! all that the object shows -/
def awk9 (w : WD) (i : Nat) : Int32 := if i < yw (vy w) then io (xp (ya (vy w)) i - 1) else -io 1
def al3 (w : WD) : Nat → Int64 → Nat → Int64
  | 0, x, _ => x
  | k + 1, x, i => al3 w k ((((31 : Int64) * x) + (awk9 w i).toInt64) + ((7 : Int64) * (io (10000 * xq (ya (vy w)) i + xt (ya (vy w)) i)).toInt64)) (i + 1)
def al2 (w : WD) : Nat → Int64 → Nat → Int64
  | 0, x, _ => x
  | k + 1, x, i => al2 w k ((((1000003 : Int64) * x) + (io (un (yu (vy w) i))).toInt64) + ((31 : Int64) * (io (winN w i)).toInt64)) (i + 1)
def al1 (w : WD) : Nat → Int64 → Nat → Int64
  | 0, x, _ => x
  | k + 1, x, i => al1 w k (((((1000003 : Int64) * x) + (io (ngt (yg (vy w)) i)).toInt64) + ((31 : Int64) * (io (owe (yg (vy w)) (yd (vy w)) i 0)).toInt64)) + ((961 : Int64) * (io (owe (yg (vy w)) (yd (vy w)) 0 i)).toInt64)) (i + 1)
def al0 (w : WD) : Int64 := ((((io (yh (vy w))).toInt64 + ((31 : Int64) * (io (yc (vy w))).toInt64)) + ((961 : Int64) * (io (yc (vy w) - yw (vy w))).toInt64)) + ((29791 : Int64) * (werr w).toInt64)) + ((65537 : Int64) * (hold2 (yg (vy w)) (vn w) (yd (vy w)) (yh (vy w) / 8 + 1)).toInt64)
def allV (w : WD) : Int64 := al3 w (yc (vy w)) (al2 w (vR w) (al1 w (vn w) (al0 w) 0) 0) 0
section AV
variable {F Z : Nat} {s : St} {w : WD} {A : LA}
theorem C_err (hF : 5000 ≤ F) (H : CL s w A) (hc : ct s < Z) : RB (qd Z s (fun z => f_P_errorAt F z s)) (.inl (werr w)) s (ct s + 1) w A := by
  obtain ⟨s', a, b, c, -⟩ := W_errorAt (F := F) (Z := sz s + 64) hF H.1 (by omega)
  exact RB.dd H hc ⟨s', a, b, c⟩
theorem V149 (hc9 : yc (vy w) ≤ 4000) {C : Nat} : ∀ (j N k : Nat) (s : St) (x : Int64), k + j = yc (vy w) → j < N → ct s ≤ C → CL s w A → RB (f_L_all_b149 F Z N s x (io k)) (al3 w j x k) s C w A := by
  intro j
  induction j with
  | zero =>
    intro N k s x hk hN hc H
    obtain ⟨N, rfl⟩ : ∃ N', N = N' + 1 := ⟨N - 1, by omega⟩
    have hk' : k = yc (vy w) := by omega
    subst hk'
    rw [f_L_all_b149]
    refine RB.pl (W_alarms (F := F) H.1) H (fun s1 c1 d1 => ?_)
    dsimp only
    rw [if_pos (Int32.le_refl _)]
    exact RB.ret c1 (by omega)
  | succ j ih =>
    intro N k s x hk hN hc H
    obtain ⟨N, rfl⟩ : ∃ N', N = N' + 1 := ⟨N - 1, by omega⟩
    have hkc : k < yc (vy w) := by omega
    have ek : io k + 1 = io (k + 1) := io_add _ _
    rw [f_L_all_b149]
    refine RB.pl (W_alarms (F := F) H.1) H (fun s1 c1 d1 => ?_)
    dsimp only
    rw [if_neg (show ¬ io (yc (vy w)) ≤ io k by rw [io_le (by omega) (by omega)]; omega)]
    refine RB.tk (C_woken (F := F) (Z := Z) c1 hkc) (fun s2 c2 d2 d3 => ?_)
    dsimp only
    refine RB.tk (C_alarm (F := F) (Z := Z) c2 hkc) (fun s3 c3 d4 d5 => ?_)
    dsimp only
    rw [ek]
    exact ih N (k + 1) s3 _ (by omega) (by omega) (by omega) c3
theorem V106 (hF : 5000 ≤ F) (hp : APx A w) {C : Nat} : ∀ (j N k : Nat) (s : St) (x : Int64), k + j = vR w → j < N → ct s ≤ C → CL s w A → RB (f_L_all_b106 F Z N s x (io k)) (al3 w (yc (vy w)) (al2 w j x k) 0) s C w A := by
  intro j
  induction j with
  | zero =>
    intro N k s x hk hN hc H
    obtain ⟨N, rfl⟩ : ∃ N', N = N' + 1 := ⟨N - 1, by omega⟩
    have hk' : k = vR w := by omega
    subst hk'
    have h9 := H.1.c.2.2.1
    rw [f_L_all_b106, show (ix 4 1 : Option Nat) = some 1 from rfl, Option.bind_some, H.2 39 (by decide), hp.2.1, if_pos (Int32.le_refl _)]
    exact V149 h9 (yc (vy w)) F 0 s x (by omega) (by omega) hc H
  | succ j ih =>
    intro N k s x hk hN hc H
    obtain ⟨N, rfl⟩ : ∃ N', N = N' + 1 := ⟨N - 1, by omega⟩
    have hkc : k < vR w := by omega
    have hR := H.1.r.2
    have ek : io k + 1 = io (k + 1) := io_add _ _
    rw [f_L_all_b106, show (ix 4 1 : Option Nat) = some 1 from rfl, Option.bind_some, H.2 39 (by decide), hp.2.1, if_neg (show ¬ io (vR w) ≤ io k by rw [io_le (by omega) (by omega)]; omega)]
    refine RB.tk (C_rises (F := F) (Z := Z) H hkc) (fun s2 c2 d2 d3 => ?_)
    dsimp only
    refine RB.tk (C_inWindow (F := F) (Z := Z) hF c2 hkc) (fun s3 c3 d4 d5 => ?_)
    dsimp only
    rw [lt_def, ek]
    exact ih N (k + 1) s3 _ (by omega) (by omega) (by omega) c3
theorem V49 (hF : 5000 ≤ F) (hp : APx A w) {C : Nat} : ∀ (j N k : Nat) (s : St) (x : Int64), k + j = vn w → j < N → ct s ≤ C → CL s w A → RB (f_L_all_b49 F Z N s x (io k)) (al3 w (yc (vy w)) (al2 w (vR w) (al1 w j x k) 0) 0) s C w A := by
  intro j
  induction j with
  | zero =>
    intro N k s x hk hN hc H
    obtain ⟨N, rfl⟩ : ∃ N', N = N' + 1 := ⟨N - 1, by omega⟩
    have hk' : k = vn w := by omega
    subst hk'
    have hR := H.1.r.2
    rw [f_L_all_b49, show (ix 4 0 : Option Nat) = some 0 from rfl, Option.bind_some, H.2 39 (by decide), hp.1, if_pos (Int32.le_refl _)]
    exact V106 hF hp (vR w) F 0 s x (by omega) (by omega) hc H
  | succ j ih =>
    intro N k s x hk hN hc H
    obtain ⟨N, rfl⟩ : ∃ N', N = N' + 1 := ⟨N - 1, by omega⟩
    have hkc : k < vn w := by omega
    have hn := H.1.n.2
    have ek : io k + 1 = io (k + 1) := io_add _ _
    rw [f_L_all_b49, show (ix 4 0 : Option Nat) = some 0 from rfl, Option.bind_some, H.2 39 (by decide), hp.1, if_neg (show ¬ io (vn w) ≤ io k by rw [io_le (by omega) (by omega)]; omega)]
    refine RB.tk (C_nights (F := F) (Z := Z) hF H hkc) (fun s2 c2 d2 d3 => ?_)
    dsimp only
    refine RB.tk (C_owes (F := F) (Z := Z) hF c2 hkc (b := 0) (by omega)) (fun s3 c3 d4 d5 => ?_)
    dsimp only
    refine RB.tk (C_owes (F := F) (Z := Z) hF c3 (a := 0) (by omega) hkc) (fun s4 c4 d6 d7 => ?_)
    dsimp only
    rw [lt_def, ek]
    exact ih N (k + 1) s4 _ (by omega) (by omega) (by omega) c4
theorem L_all (hF : 5000 ≤ F) (H : CL s w A) (hp : APx A w) (h440 : yh (vy w) ≤ 440) (hZ : ct s + 1 ≤ Z) : RB (f_L_all F Z s) (allV w) s (ct s + 1) w A := by
  have hn := H.1.n.2
  rw [f_L_all]
  refine RB.pl (W_now (F := F) H.1) H (fun s1 c1 d1 => ?_)
  dsimp only
  refine RB.pl (W_alarms (F := F) c1.1) c1 (fun s2 c2 d2 => ?_)
  dsimp only
  refine RB.pl (W_waiting (F := F) c2.1) c2 (fun s3 c3 d3 => ?_)
  dsimp only
  refine RB.tk (C_err (F := F) (Z := Z) hF c3 (by omega)) (fun s4 c4 d4 d5 => ?_)
  dsimp only
  refine RB.pl (W_next (F := F) hF c4.1 (by omega)) c4 (fun s5 c5 d6 => ?_)
  dsimp only
  rw [lt_def]
  exact V49 hF hp (vn w) F 0 s5 _ (by omega) (by omega) (by omega) c5
end AV
/-! what is refused -/
theorem sbI {a b : Nat} (ha : a < 1073741824) (hb : b < 1073741824) : (io a - io b).toInt = (a : Int) - b := by
  rw [Int32.toInt_sub, io_toInt (by omega), io_toInt (by omega), Int.bmod_eq_of_le (by omega) (by omega)]
theorem ngI {b : Nat} (hb : b < 1073741824) : ((-1 : Int32) - io b).toInt = -1 - (b : Int) := by
  have h1 : (-1 : Int32).toInt = -1 := by decide
  rw [Int32.toInt_sub, h1, io_toInt (by omega), Int.bmod_eq_of_le (by omega) (by omega)]
theorem ngJ {b : Nat} (hb : b < 1073741824) : ((-1001 : Int32) - io b).toInt = -1001 - (b : Int) := by
  have h1 : (-1001 : Int32).toInt = -1001 := by decide
  rw [Int32.toInt_sub, h1, io_toInt (by omega), Int.bmod_eq_of_le (by omega) (by omega)]
theorem m1000 : (-io 1000 : Int32).toInt = -1000 := by decide
/-- the case of a refusal -/
def RCx (w : WD) (x e : Nat) (l4 l5 l6 l7 : Int32) : Prop := x < 1000000000 ∧ e < 30 ∧ io x - io x / 30 * 30 = io e ∧ (l4 = 0 ∨ l4 = 1) ∧ ¬ (io 0 ≤ l5 ∧ l5 < io (vn w)) ∧ (¬ ∃ r, r < vR w ∧ l6 = io r) ∧ ¬ ∃ i, i < yc (vy w) ∧ l7 = io i
theorem bad_ne {x : Int32} {N : Nat} (hN : N < 1073741824) (h : ¬ (io 0 ≤ x ∧ x < io N)) : ¬ ∃ r, r < N ∧ x = io r := fun ⟨r, h1, h2⟩ => h (by
  rw [h2, io_le (by omega) (by omega), io_lt (by omega) (by omega)]; omega)
theorem bad_neg {e N : Nat} (he : e < 30) (hN : N < 1073741824) : ¬ (io 0 ≤ (-1 : Int32) - io e ∧ (-1 : Int32) - io e < io N) := fun h => by
  have := h.1
  rw [Int32.le_iff_toInt_le, ngI (by omega), io_toInt (by omega)] at this
  omega
theorem bad_pos {e N : Nat} (he : e < 30) (hN : N < 1073741824) : ¬ (io 0 ≤ io (N + e) ∧ io (N + e) < io N) := fun h => by
  have := h.2
  rw [io_lt (by omega) (by omega)] at this
  omega
section RF
variable {F Z : Nat} {s : St} {w : WD} {A : LA} {x e : Nat} {l4 l5 l6 l7 : Int32}
theorem R1020 (hF : 5000 ≤ F) (H : CL s w A) (hL : LVx A w) (hZ : ct s + 1 ≤ Z) : RB (f_L_isRefused_b1020 F Z s (allV w) 1) 1 s (ct s + 1) w A := by
  rw [f_L_isRefused_b1020, if_neg (show ¬ (1 : Int32) = 0 by decide)]
  refine RB.cal (L_all (F := F) (Z := Z) hF H hL.1 hL.2.2.2.2.2.2.2 hZ) (by omega) (fun s1 c1 d1 d2 => ?_)
  dsimp only
  rw [if_pos rfl]
  exact RB.ret c1 d2
theorem R847 (hF : 5000 ≤ F) (hL : LVx A w) (hC : RCx w x e l4 l5 l6 l7) {C : Nat} (hZ : C + 17 ≤ Z) : ∀ (j N k : Nat) (s : St), k + j = vR w → j < N → ct s ≤ C + 4 * k → CL s w A → RB (f_L_isRefused_b847 F Z N s (io x) l4 (allV w) 1 (io k)) 1 s (C + 17) w A := by
  obtain ⟨hx, he, hE, h4, hP, hR6, hA7⟩ := hC
  have h440 := hL.2.2.2.2.2.2.2
  have lp := hL.1
  have lr := hL.2.2.2.1
  intro j
  induction j with
  | zero =>
    intro N k s hk hN hc H
    obtain ⟨N, rfl⟩ : ∃ N', N = N' + 1 := ⟨N - 1, by omega⟩
    have hk' : k = vR w := by omega
    subst hk'
    have hR := H.1.r.2
    rw [f_L_isRefused_b847, show (ix 4 1 : Option Nat) = some 1 from rfl, Option.bind_some, H.2 39 (by decide), lp.2.1, if_pos (Int32.le_refl _)]
    exact (R1020 hF H hL (by omega)).le (by omega)
  | succ j ih =>
    intro N k s hk hN hc H
    obtain ⟨N, rfl⟩ : ∃ N', N = N' + 1 := ⟨N - 1, by omega⟩
    have hkr : k < vR w := by omega
    have hR := H.1.r.2
    have ek : io k + 1 = io (k + 1) := io_add _ _
    have e12 : (12 : Int32) * io k = io (12 * k) := io_mul 12 k
    have e3 : io (12 * k) + 3 = io (12 * k + 3) := io_add _ _
    have e4 : io (12 * k) + 4 = io (12 * k + 4) := io_add _ _
    have en1 : io (yh (vy w)) + 1 = io (yh (vy w) + 1) := io_add _ _
    have en2 : io (yh (vy w)) + 2 = io (yh (vy w) + 2) := io_add _ _
    have hr := lr.1 k hkr
    have hg := H.1.ru.2.1.2.1 k hkr
    have hlen := hg.2.2.2.2.2.2.2.2.1
    -- the last of the four
    have r970 : ∀ s1, CL s1 w A → ct s1 ≤ C + 4 * k + 3 → RB (f_L_isRefused_b970 F Z (f_L_isRefused_b847 F Z N) s1 (io x) l4 (allV w) (io k)) 1 s1 (C + 17) w A := fun s1 c1 d1 => by
      rw [f_L_isRefused_b970, e12, e4, ix_io (show 12 * k + 4 < 48 by omega) (by decide), Option.bind_some, c1.2 42 (by decide), hr.2.2.2.2.1, ek]
      by_cases h5 : (us (yu (vy w) k)).length < 5
      · rw [if_pos (show io (us (yu (vy w) k)).length < 5 from by
          show io (us (yu (vy w) k)).length < io 5
          rw [io_lt (by omega) (by decide)]; exact h5)]
        exact ih N (k + 1) s1 (by omega) (by omega) (by omega) c1
      · rw [if_neg (show ¬ io (us (yu (vy w) k)).length < 5 from by
          show ¬ io (us (yu (vy w) k)).length < io 5
          rw [io_lt (by omega) (by decide)]; exact h5)]
        refine RB.pl (W_now (F := F) c1.1) c1 (fun s2 c2 d2 => ?_)
        dsimp only
        rw [en1]
        refine RB.cal (A_silence_x1 (F := F) (Z := Z) hF c2 (by omega) (a := io (yh (vy w) + 1)) (b := 1000) hkr (fun c => by
          rw [io_lt (by omega) (by omega), io_lt (by omega) (by omega)] at c; omega) (fun c => by
          have c' : io 1000 < io (yh (vy w) + 1) ∨ io 1000 < io 1000 := c
          rw [io_lt (by omega) (by omega), io_lt (by omega) (by omega)] at c'; omega) (by omega)) (by omega) (fun s3 c3 d3 d4 => ?_)
        dsimp only
        rw [if_pos rfl]
        exact ih N (k + 1) s3 (by omega) (by omega) (by omega) c3
    have r931 : ∀ s1 (t : Int32), CL s1 w A → ct s1 ≤ C + 4 * k + 1 → (t < io (yh (vy w) + 2) ∨ io 1000 < t) → RB (f_L_isRefused_b931 F Z (f_L_isRefused_b847 F Z N) s1 (io x) l4 (allV w) (io k) 7 (io k) (io (yh (vy w) + 2)) t) 1 s1 (C + 17) w A := fun s1 t c1 d1 ht => by
      rw [f_L_isRefused_b931]
      refine RB.cal (A_silence_x0 (F := F) (Z := Z) hF c1 (by omega) (a := io (yh (vy w) + 2)) (b := t) hkr (Or.inr ⟨fun c => by
          rw [io_lt (by omega) (by omega), io_lt (by omega) (by omega)] at c; omega, ht⟩)) (by omega) (fun s2 c2 d2 d3 => ?_)
      dsimp only
      rw [if_pos rfl, e12, e3, ix_io (show 12 * k + 3 < 48 by omega) (by decide), Option.bind_some, c2.2 42 (by decide), hr.2.2.2.1]
      by_cases hd : ud (yu (vy w) k) = 0
      · rw [if_pos hd, if_pos (show io 0 = 0 from rfl)]
        exact r970 s2 c2 (by omega)
      · rw [if_neg hd, if_neg (show ¬ io 1 = 0 by decide)]
        refine RB.cal (A_drop_x1 (F := F) (Z := Z) hF c2 (by omega) hkr hd) (by omega) (fun s3 c3 d4 d5 => ?_)
        dsimp only
        rw [if_pos rfl]
        exact r970 s3 c3 (by omega)
    have r885 : ∀ s1 (t : Int32), CL s1 w A → ct s1 ≤ C + 4 * k → (t < io (yh (vy w) + 1) ∨ io 1000 < t) → RB (f_L_isRefused_b885 F Z (f_L_isRefused_b847 F Z N) s1 (io x) l4 (allV w) (io k) 7 (io k) t) 1 s1 (C + 17) w A := fun s1 t c1 d1 ht => by
      rw [f_L_isRefused_b885]
      refine RB.cal (A_silence_x0 (F := F) (Z := Z) hF c1 (by omega) (a := t) (b := 1000) hkr (Or.inl ht)) (by omega) (fun s2 c2 d2 d3 => ?_)
      dsimp only
      rw [if_pos rfl]
      refine RB.pl (W_now (F := F) c2.1) c2 (fun s3 c3 d4 => ?_)
      dsimp only
      rw [en2]
      rcases h4 with h4 | h4
      · rw [if_pos h4]
        exact r931 s3 1001 c3 (by omega) (Or.inr (by decide))
      · rw [if_neg (by rw [h4]; decide)]
        refine RB.pl (W_now (F := F) c3.1) c3 (fun s4 c4 d5 => ?_)
        dsimp only
        rw [hE, en1]
        exact r931 s4 _ c4 (by omega) (Or.inl (by rw [Int32.lt_iff_toInt_lt, sbI (by omega) (by omega), io_toInt (by omega)]; omega))
    rw [f_L_isRefused_b847, show (ix 4 1 : Option Nat) = some 1 from rfl, Option.bind_some, H.2 39 (by decide), lp.2.1, if_neg (show ¬ io (vR w) ≤ io k by rw [io_le (by omega) (by omega)]; omega), if_neg (show ¬ (1 : Int32) = 0 by decide)]
    rcases h4 with h4 | h4
    · rw [if_pos h4]
      exact r885 s 1001 H hc (Or.inr (by decide))
    · rw [if_neg (by rw [h4]; decide)]
      refine RB.pl (W_now (F := F) H.1) H (fun s1 c1 d1 => ?_)
      dsimp only
      rw [hE]
      exact r885 s1 _ c1 (by omega) (Or.inl (by rw [Int32.lt_iff_toInt_lt, sbI (by omega) (by omega), io_toInt (by omega)]; omega))
theorem R674 (hF : 5000 ≤ F) (hL : LVx A w) (hC : RCx w x e l4 l5 l6 l7) {C : Nat} (hZ : C + 65 ≤ Z) : ∀ (j N k : Nat) (s : St), k + j = vn w → j < N → ct s ≤ C + 6 * k → CL s w A → RB (f_L_isRefused_b674 F Z N s (io x) l4 l5 (io (yh (vy w) / 8)) (allV w) 1 (io k)) 1 s (C + 65) w A := by
  have hC0 := hC
  obtain ⟨hx, he, hE, h4, hP, hR6, hA7⟩ := hC
  have h440 := hL.2.2.2.2.2.2.2
  have lp := hL.1
  intro j
  induction j with
  | zero =>
    intro N k s hk hN hc H
    obtain ⟨N, rfl⟩ : ∃ N', N = N' + 1 := ⟨N - 1, by omega⟩
    have hk' : k = vn w := by omega
    subst hk'
    have hn := H.1.n.2
    have hR := H.1.r.2
    rw [f_L_isRefused_b674, show (ix 4 0 : Option Nat) = some 0 from rfl, Option.bind_some, H.2 39 (by decide), lp.1, if_pos (Int32.le_refl _)]
    exact R847 (C := C + 48) hF hL hC0 (by omega) (vR w) F 0 s (by omega) (by omega) (by omega) H
  | succ j ih =>
    intro N k s hk hN hc H
    obtain ⟨N, rfl⟩ : ∃ N', N = N' + 1 := ⟨N - 1, by omega⟩
    have hkn : k < vn w := by omega
    have hn := H.1.n.2
    have hR := H.1.r.2
    have ek : io k + 1 = io (k + 1) := io_add _ _
    have hpk : io 0 ≤ io k ∧ io k < io (vn w) := ⟨by rw [io_le (by omega) (by omega)]; omega, by rw [io_lt (by omega) (by omega)]; omega⟩
    have r816 : ∀ s1, CL s1 w A → ct s1 ≤ C + 6 * k + 5 → RB (f_L_isRefused_b816 F Z (f_L_isRefused_b674 F Z N) s1 (io x) l4 l5 (io (yh (vy w) / 8)) (allV w) (io k)) 1 s1 (C + 65) w A := fun s1 c1 d1 => by
      rw [f_L_isRefused_b816]
      refine RB.cal (O_owes_x (F := F) (Z := Z) hF c1 (by omega) (x := io k) (y := l5) (Or.inr hP)) (by omega) (fun s2 c2 d2 d3 => ?_)
      dsimp only
      rw [if_pos rfl, ek]
      exact ih N (k + 1) s2 (by omega) (by omega) (by omega) c2
    have r800 : ∀ s1, CL s1 w A → ct s1 ≤ C + 6 * k + 4 → (ques (vt w) (vk w) = none ∨ vR w = 4) → RB (f_L_isRefused_b800 F Z (f_L_isRefused_b674 F Z N) s1 (io x) l4 l5 (io (yh (vy w) / 8)) (allV w) (io k)) 1 s1 (C + 65) w A := fun s1 c1 d1 hq => by
      rw [f_L_isRefused_b800]
      refine RB.cal (A_addRule_x1 (F := F) (Z := Z) hF c1 (by omega) (y := 5) (v := 5) hkn (by decide) (by decide) (by decide) hq) (by omega) (fun s2 c2 d2 d3 => ?_)
      dsimp only
      rw [if_pos rfl]
      exact r816 s2 c2 (by omega)
    have r776 : ∀ s1 (t : Int32), CL s1 w A → ct s1 ≤ C + 6 * k + 2 → (t < io 0 ∨ io 72 < t) → RB (f_L_isRefused_b776 F Z (f_L_isRefused_b674 F Z N) s1 (io x) l4 l5 (io (yh (vy w) / 8)) (allV w) (io k) 5 (io k) 5 t) 1 s1 (C + 65) w A := fun s1 t c1 d1 ht => by
      rw [f_L_isRefused_b776]
      refine RB.cal (A_addRule_x0 (F := F) (Z := Z) hF c1 (by omega) (x := io k) (y := 5) (v := t) hpk (Or.inr ⟨by decide, ht⟩)) (by omega) (fun s2 c2 d2 d3 => ?_)
      dsimp only
      rw [if_pos rfl, show (ix 4 1 : Option Nat) = some 1 from rfl, Option.bind_some, c2.2 39 (by decide), lp.2.1]
      by_cases h : 4 ≤ vR w
      · rw [if_pos (show (4 : Int32) ≤ io (vR w) from by
          show io 4 ≤ io (vR w)
          rw [io_le (by decide) (by omega)]; exact h)]
        exact r800 s2 c2 (by omega) (Or.inr (by omega))
      · rw [if_neg (show ¬ (4 : Int32) ≤ io (vR w) from by
          show ¬ io 4 ≤ io (vR w)
          rw [io_le (by decide) (by omega)]; exact h)]
        refine RB.tk (C_err (F := F) (Z := Z) hF c2 (by omega)) (fun s3 c3 d4 d5 => ?_)
        dsimp only
        by_cases hq : ques (vt w) (vk w) = none
        · have hw : werr w = io (perr (vt w)) := by unfold werr; rw [hq]
          have hpl := perr_le (c3.1.2.2.2.1)
          have hk9 := c3.1.2.2.2.1.1
          rw [if_neg (show ¬ werr w < 0 by rw [hw]; exact nn0 (by omega))]
          exact r800 s3 c3 (by omega) (Or.inl hq)
        · have hw : werr w = -io 1 := by
            unfold werr
            cases h9 : ques (vt w) (vk w) with
            | none => exact absurd h9 hq
            | some cq => rfl
          rw [if_pos (show werr w < 0 by rw [hw]; exact neg_lits.2.2.1)]
          exact r816 s3 c3 (by omega)
    have r744 : ∀ s1 (t : Int32), CL s1 w A → ct s1 ≤ C + 6 * k + 1 → (t < io 1 ∨ io 72 < t) → RB (f_L_isRefused_b744 F Z (f_L_isRefused_b674 F Z N) s1 (io x) l4 l5 (io (yh (vy w) / 8)) (allV w) (io k) 5 (io k) t) 1 s1 (C + 65) w A := fun s1 t c1 d1 ht => by
      rw [f_L_isRefused_b744]
      refine RB.cal (A_addRule_x0 (F := F) (Z := Z) hF c1 (by omega) (x := io k) (y := t) (v := 5) hpk (Or.inl ht)) (by omega) (fun s2 c2 d2 d3 => ?_)
      dsimp only
      rw [if_pos rfl]
      rcases h4 with h4 | h4
      · rw [if_pos h4]; exact r776 s2 73 c2 (by omega) (Or.inr (by decide))
      · rw [if_neg (by rw [h4]; decide), hE]
        exact r776 s2 _ c2 (by omega) (Or.inl (by rw [Int32.lt_iff_toInt_lt, ngI (by omega), io_toInt (by omega)]; omega))
    have r713 : ∀ s1 (t : Int32), CL s1 w A → ct s1 ≤ C + 6 * k → ¬ (io (yh (vy w) / 8) < t ∧ t < io 126) → RB (f_L_isRefused_b713 F Z (f_L_isRefused_b674 F Z N) s1 (io x) l4 l5 (io (yh (vy w) / 8)) (allV w) (io k) 4 (io k) t) 1 s1 (C + 65) w A := fun s1 t c1 d1 ht => by
      rw [f_L_isRefused_b713]
      refine RB.cal (A_off_x0 (F := F) (Z := Z) hF c1 (by omega) hkn ht) (by omega) (fun s2 c2 d2 d3 => ?_)
      dsimp only
      rw [if_pos rfl]
      rcases h4 with h4 | h4
      · rw [if_pos h4]; exact r744 s2 73 c2 (by omega) (Or.inr (by decide))
      · rw [if_neg (by rw [h4]; decide), hE]
        exact r744 s2 _ c2 (by omega) (Or.inl (by
          show io 0 - io e < io 1
          rw [Int32.lt_iff_toInt_lt, sbI (by omega) (by omega), io_toInt (by omega)]; omega))
    rw [f_L_isRefused_b674, show (ix 4 0 : Option Nat) = some 0 from rfl, Option.bind_some, H.2 39 (by decide), lp.1, if_neg (show ¬ io (vn w) ≤ io k by rw [io_le (by omega) (by omega)]; omega), if_neg (show ¬ (1 : Int32) = 0 by decide), hE]
    rcases h4 with h4 | h4
    · rw [if_pos h4]
      exact r713 s _ H hc (fun c => by
        have c2 : io 126 + io e < io 126 := c.2
        rw [io_add, io_lt (by omega) (by omega)] at c2; omega)
    · rw [if_neg (by rw [h4]; decide)]
      exact r713 s _ H hc (fun c => by
        have c1 := c.1
        rw [Int32.lt_iff_toInt_lt, sbI (by omega) (by omega), io_toInt (by omega)] at c1; omega)
theorem R619 (hF : 5000 ≤ F) (hL : LVx A w) (hC : RCx w x e l4 l5 l6 l7) {C : Nat} (hZ : C + 72 ≤ Z) : ∀ (j N k : Nat) (s : St), k + j = 11 → 4 ≤ k → j < N → ct s ≤ C + (k - 4) → CL s w A → RB (f_L_isRefused_b619 F Z N s (io x) l4 l5 l6 l7 (io (yh (vy w) / 8)) (allV w) 1 (io k)) 1 s (C + 72) w A := by
  have hC0 := hC
  obtain ⟨hx, he, hE, h4, hP, hR6, hA7⟩ := hC
  intro j
  induction j with
  | zero =>
    intro N k s hk hk4 hN hc H
    obtain ⟨N, rfl⟩ : ∃ N', N = N' + 1 := ⟨N - 1, by omega⟩
    have hn := H.1.n.2
    rw [f_L_isRefused_b619, if_pos (show (11 : Int32) ≤ io k from by
      show io 11 ≤ io k
      rw [io_le (by decide) (by omega)]; omega)]
    exact R674 (C := C + 7) hF hL hC0 (by omega) (vn w) F 0 s (by omega) (by omega) (by omega) H
  | succ j ih =>
    intro N k s hk hk4 hN hc H
    obtain ⟨N, rfl⟩ : ∃ N', N = N' + 1 := ⟨N - 1, by omega⟩
    have ek : io k + 1 = io (k + 1) := io_add _ _
    have r648 : ∀ t : Int32, RB (f_L_of F Z s (io k) t 0) (-1241) s (ct s + 1) w A → RB (f_L_isRefused_b648 F Z (f_L_isRefused_b619 F Z N) s (io x) l4 l5 l6 l7 (io (yh (vy w) / 8)) (allV w) (io k) (io k) t) 1 s (C + 72) w A := fun t h => by
      rw [f_L_isRefused_b648]
      refine RB.cal h (by omega) (fun s2 c2 d2 d3 => ?_)
      dsimp only
      rw [if_pos rfl, ek]
      exact ih N (k + 1) s2 (by omega) (by omega) (by omega) (by omega) c2
    rw [f_L_isRefused_b619, if_neg (show ¬ (11 : Int32) ≤ io k from by
      show ¬ io 11 ≤ io k
      rw [io_le (by decide) (by omega)]; omega), if_neg (show ¬ (1 : Int32) = 0 by decide)]
    rcases (by omega : k = 4 ∨ k = 5 ∨ k = 6 ∨ k = 7 ∨ k = 8 ∨ k = 9 ∨ k = 10) with rfl | rfl | rfl | rfl | rfl | rfl | rfl
    · rw [if_neg (by decide)]; exact r648 l6 (O_inWindow_x hF H (by omega) hR6)
    · rw [if_neg (by decide)]; exact r648 l6 (O_rises_x hF H (by omega) hR6)
    · rw [if_neg (by decide)]; exact r648 l6 (O_risesAnew_x hF H (by omega) hR6)
    · rw [if_pos (by decide)]; exact r648 l7 (O_alarm_x hF H (by omega) hA7)
    · rw [if_pos (by decide)]; exact r648 l7 (O_woken_x hF H (by omega) hA7)
    · rw [if_pos (by decide)]; exact r648 l7 (O_wokenAt_x hF H (by omega) hA7)
    · rw [if_pos (by decide)]; exact r648 l7 (O_wouldRise_x hF H (by omega) hA7)
end RF
