/-! isHour -/
section IH
variable {F Z : Nat} {s : St} {w : WD} {A : LA}
/-- the silences: none of them holds the hour -/
theorem I432 (hA : ARx A w) (hR : vR w ≤ 4) {h q : Nat} (hq : q < vR w) (hh : h ≤ 1000) (hus : (us (yu (vy w) q)).length ≤ 5 ∧ ∀ e ∈ us (yu (vy w) q), e.1 ≤ e.2 ∧ e.2 ≤ 1000) (hs : silB (us (yu (vy w) q)) h = false) {D l14 : Int32} {K : St → Int32 → Int32 → Int32 → Int32 → Int32 → Option (Int32 × St)} {C hi9 : Nat}
    (kk : ∀ s1, CL s1 w A → ct s1 ≤ C → RB (K s1 (io h) D 1 (io q) (l14 + 1)) 1 s1 hi9 w A) : ∀ (j N m : Nat) (s : St), m + j = (us (yu (vy w) q)).length → j < N → ct s ≤ C → CL s w A → RB (f_L_isHour_b432 F Z K N s (io h) D 1 l14 (io q) (io m)) 1 s hi9 w A := by
  have hr := hA.1 q hq
  have e12 : (12 : Int32) * io q = io (12 * q) := io_mul 12 q
  have e4 : io (12 * q) + 4 = io (12 * q + 4) := io_add _ _
  have e5 : io (12 * q) + 5 = io (12 * q + 5) := io_add _ _
  intro j
  induction j with
  | zero =>
    intro N m s hm hN hc H
    obtain ⟨N, rfl⟩ : ∃ N', N = N' + 1 := ⟨N - 1, by omega⟩
    rw [f_L_isHour_b432, e12, e4, ix_io (show 12 * q + 4 < 48 by omega) (by decide), Option.bind_some, H.2 42 (by decide), hr.2.2.2.2.1, if_pos (show io (us (yu (vy w) q)).length ≤ io m by rw [io_le (by omega) (by omega)]; omega)]
    exact kk s H hc
  | succ j ih =>
    intro N m s hm hN hc H
    obtain ⟨N, rfl⟩ : ∃ N', N = N' + 1 := ⟨N - 1, by omega⟩
    have hml : m < (us (yu (vy w) q)).length := by omega
    have em : io m + 1 = io (m + 1) := io_add _ _
    have e6 : io (12 * q + 5) + io m = io (12 * q + 5 + m) := io_add _ _
    obtain ⟨e, he⟩ : ∃ e, e = (us (yu (vy w) q))[m] := ⟨_, rfl⟩
    have hin : e ∈ us (yu (vy w) q) := by rw [he]; exact List.getElem_mem hml
    obtain ⟨b1, b2⟩ := hus.2 e hin
    have hg := hr.2.2.2.2.2 m hml
    rw [← he] at hg
    have hsil : ¬ (e.1 ≤ h ∧ h ≤ e.2) := fun hb => by
      unfold silB at hs
      rw [List.any_eq_false] at hs
      exact hs e hin (by simp [hb])
    have x1 : io (e.1 + 1024 * e.2) &&& 1023 = io e.1 := by
      have : io (e.1 + 1024 * e.2) &&& io 1023 = io ((e.1 + 1024 * e.2) &&& 1023) := io_and _ _
      rw [show (e.1 + 1024 * e.2) &&& 1023 = e.1 from by
        have := Nat.and_two_pow_sub_one_eq_mod (e.1 + 1024 * e.2) 10
        rw [show (2 ^ 10 - 1 : Nat) = 1023 from rfl, show (2 ^ 10 : Nat) = 1024 from rfl] at this
        rw [this]; omega] at this
      exact this
    have x2 : io (e.1 + 1024 * e.2) >>> ((10 : Int32) &&& 31) = io e.2 := by
      have h1 : ((10 : Int32) &&& 31) = io 10 := by decide
      rw [h1, io_shr (by omega) (by omega), show (e.1 + 1024 * e.2) >>> 10 = e.2 from by rw [Nat.shiftRight_eq_div_pow, show (2 ^ 10 : Nat) = 1024 from rfl]; omega]
    have hi := ih N (m + 1) s (by omega) (by omega) hc H
    rw [f_L_isHour_b432, e12, e4, ix_io (show 12 * q + 4 < 48 by omega) (by decide), Option.bind_some, H.2 42 (by decide), hr.2.2.2.2.1, if_neg (show ¬ io (us (yu (vy w) q)).length ≤ io m by rw [io_le (by omega) (by omega)]; omega), if_neg (show ¬ (1 : Int32) = 0 by decide), e5, e6, ix_io (show 12 * q + 5 + m < 48 by omega) (by decide), Option.bind_some, hg, x1, x2, em]
    by_cases h1 : h < e.1
    · rw [if_pos (by rw [io_lt (by omega) (by omega)]; exact h1)]; exact hi
    · rw [if_neg (by rw [io_lt (by omega) (by omega)]; exact h1), if_neg (by rw [io_le (by omega) (by omega)]; omega)]; exact hi
/-- the windows -/
theorem I532 (hF : 5000 ≤ F) {gi : Nat → Nat} (hgi : ∀ i, i < vm w → A 40 i = io (gi i) ∧ gi i ≤ 1000) (hP : ∀ P : Nat → Bool, cnt (fun i => P (gi i)) (vm w) = cnt (fun k => P (rH (vL w k))) (vm w)) (hm : vm w ≤ 60) (hp : APx A w) (hA : ARx A w) (hR : vR w ≤ 4) {h q : Nat} (hq : q < vR w) (he : h = yh (vy w)) (hh : h ≤ 1000) (hu : uw (yu (vy w) q) ≤ 72) {K : St → Int32 → Int32 → Int32 → Option (Int32 × St)} {C : Nat}
    (kk : ∀ s1, CL s1 w A → ct s1 ≤ C → RB (K s1 (io h) 1 (io (q + 1))) 1 s1 C w A) : ∀ (j N k : Nat) (s : St), k + j = vm w → j < N → ct s ≤ C → CL s w A → RB (f_L_isHour_b532 F Z K N s (io h) (io q) (io (cnt (fun i => decide (h < gi i + uw (yu (vy w) q))) k)) (io k)) 1 s C w A := by
  have hr := (hA.1 q hq).2.1
  have e12 : (12 : Int32) * io q = io (12 * q) := io_mul 12 q
  have e1 : io (12 * q) + 1 = io (12 * q + 1) := io_add _ _
  intro j
  induction j with
  | zero =>
    intro N k s hk hN hc H
    obtain ⟨N, rfl⟩ : ∃ N', N = N' + 1 := ⟨N - 1, by omega⟩
    have hk' : k = vm w := by omega
    subst hk'
    have eq1 : io q + 1 = io (q + 1) := io_add _ _
    have hw : winN w q = cnt (fun i => decide (h < gi i + uw (yu (vy w) q))) (vm w) := by
      have G : LGg (vL w) (vm w) (yh (vy w)) := H.1.2.1.2.2.2.2.2.2.2.2
      have e := hP (fun g => decide (h < g + uw (yu (vy w) q)))
      rw [e]
      unfold winN pks
      rw [rng_cnt]
      refine cnt_ext fun x hx => ?_
      obtain ⟨-, -, -, -, g1, g2, -⟩ := G.2.1 x hx
      unfold inW
      rw [decide_eq_decide, ← he]
      rw [← he] at g2
      constructor
      · intro c; omega
      · intro c; omega
    rw [f_L_isHour_b532, show (ix 4 2 : Option Nat) = some 2 from rfl, Option.bind_some, H.2 39 (by decide), hp.2.2.1, if_pos (Int32.le_refl _)]
    refine RB.tk (C_inWindow (F := F) (Z := Z) hF H hq) (fun s1 c1 d1 d2 => ?_)
    dsimp only
    rw [hw, if_pos rfl, eq1]
    exact kk s1 c1 (by omega)
  | succ j ih =>
    intro N k s hk hN hc H
    obtain ⟨N, rfl⟩ : ∃ N', N = N' + 1 := ⟨N - 1, by omega⟩
    obtain ⟨g1, g2⟩ := hgi k (by omega)
    have hcl := cnt_le (fun i => decide (h < gi i + uw (yu (vy w) q))) k
    have ek : io k + 1 = io (k + 1) := io_add _ _
    have ec : io (cnt (fun i => decide (h < gi i + uw (yu (vy w) q))) k) + 1 = io (cnt (fun i => decide (h < gi i + uw (yu (vy w) q))) k + 1) := io_add _ _
    have ez : io (cnt (fun i => decide (h < gi i + uw (yu (vy w) q))) k) + 0 = io (cnt (fun i => decide (h < gi i + uw (yu (vy w) q))) k) := Int32.add_zero _
    have hs : cnt (fun i => decide (h < gi i + uw (yu (vy w) q))) (k + 1) = cnt (fun i => decide (h < gi i + uw (yu (vy w) q))) k + if h < gi k + uw (yu (vy w) q) then 1 else 0 := by
      show _ + _ = _
      by_cases c : h < gi k + uw (yu (vy w) q) <;> simp [c]
    have hi := ih N (k + 1) s (by omega) (by omega) hc H
    rw [hs] at hi
    have hcmp : (io (gi k) ≤ io h - io (uw (yu (vy w) q))) = ¬ (h < gi k + uw (yu (vy w) q)) := by
      have hsub : (io h - io (uw (yu (vy w) q))).toInt = (h : Int) - (uw (yu (vy w) q) : Int) := by
        rw [Int32.toInt_sub, io_toInt (by omega), io_toInt (by omega), Int.bmod_eq_of_le (by omega) (by omega)]
      rw [Int32.le_iff_toInt_le, hsub, io_toInt (by omega)]
      simp only [eq_iff_iff]
      omega
    rw [f_L_isHour_b532, show (ix 4 2 : Option Nat) = some 2 from rfl, Option.bind_some, H.2 39 (by decide), hp.2.2.1, if_neg (show ¬ io (vm w) ≤ io k by rw [io_le (by omega) (by omega)]; omega), ix_io (show k < 60 by omega) (by decide), Option.bind_some, e12, e1, ix_io (show 12 * q + 1 < 48 by omega) (by decide), Option.bind_some, H.2 40 (by decide), H.2 42 (by decide), g1, hr, ek, ec, ez]
    by_cases c : h < gi k + uw (yu (vy w) q)
    · rw [if_pos c] at hi
      rw [if_neg (by rw [hcmp]; exact fun n => n c)]; exact hi
    · rw [if_neg c, Nat.add_zero] at hi
      rw [if_pos (by rw [hcmp]; exact c)]; exact hi
theorem I512 (hF : 5000 ≤ F) (hL : LVx A w) {h : Nat} (he : h = yh (vy w)) {C : Nat} : ∀ (j N k : Nat) (s : St), k + j = vR w → j < N → ct s ≤ C → CL s w A → RB (f_L_isHour_b512 F Z N s (io h) 1 (io k)) 1 s C w A := by
  obtain ⟨lp, ⟨gi, lg1, lg2⟩, lf, lr, la, ln, lm, ly⟩ := hL
  intro j
  induction j with
  | zero =>
    intro N k s hk hN hc H
    obtain ⟨N, rfl⟩ : ∃ N', N = N' + 1 := ⟨N - 1, by omega⟩
    have hk' : k = vR w := by omega
    subst hk'
    rw [f_L_isHour_b512, show (ix 4 1 : Option Nat) = some 1 from rfl, Option.bind_some, H.2 39 (by decide), lp.2.1, if_pos (Int32.le_refl _), if_pos (Or.inr rfl)]
    exact RB.ret H hc
  | succ j ih =>
    intro N k s hk hN hc H
    obtain ⟨N, rfl⟩ : ∃ N', N = N' + 1 := ⟨N - 1, by omega⟩
    have hR := H.1.r.2
    have hu := (H.1.ru.2.1.2.1 k (by omega)).2.2.2.2.1
    rw [f_L_isHour_b512, show (ix 4 1 : Option Nat) = some 1 from rfl, Option.bind_some, H.2 39 (by decide), lp.2.1, if_neg (show ¬ io (vR w) ≤ io k by rw [io_le (by omega) (by omega)]; omega), if_neg (show ¬ (1 : Int32) = 0 by decide)]
    exact I532 hF lg1 lg2 lm lp lr hR (show k < vR w by omega) he (by omega) hu (fun s1 c1 d1 => ih N (k + 1) s1 (by omega) (by omega) d1 c1) (vm w) F 0 s (by omega) (by omega) hc H
/-- what the new alarms are -/
def NWx (w : WD) (had h : Nat) (D : Int32) : Prop := (∀ i i', had ≤ i → i < i' → i' < yc (vy w) → xq (ya (vy w)) i < xq (ya (vy w)) i') ∧ ∀ i, had ≤ i → i < yc (vy w) → xt (ya (vy w)) i = h ∧ ud (yu (vy w) (xq (ya (vy w)) i)) = 0 ∧ silB (us (yu (vy w) (xq (ya (vy w)) i))) h = false ∧ wri w i ≠ 0 ∧ ((D = -io 1 ∧ ¬ i < yw (vy w)) ∨ ∃ p, p < 8 ∧ D = io p ∧ i < yw (vy w) ∧ xp (ya (vy w)) i = p + 1 ∧ xu (ya (vy w)) i = h)
theorem I308 (hF : 5000 ≤ F) (hL : LVx A w) {h had : Nat} {D : Int32} (he : h = yh (vy w)) (hW : NWx w had h D) (h63 : yc (vy w) ≤ 63) {C : Nat} (hZ : C + (yc (vy w) - had) ≤ Z) : ∀ (j N k : Nat) (s : St) (l13 : Int32), k + j = yc (vy w) → j < N → had ≤ k → ct s ≤ C + (k - had) → (l13 = -io 1 ∨ ∃ i, had ≤ i ∧ i < k ∧ l13 = io (xq (ya (vy w)) i)) → CL s w A → RB (f_L_isHour_b308 F Z N s (io h) D 1 l13 (io k)) 1 s (C + (yc (vy w) - had)) w A := by
  have hL0 := hL
  obtain ⟨lp, lg, lf, lr, la, ln, lm, ly⟩ := hL
  intro j
  induction j with
  | zero =>
    intro N k s l13 hk hN hh hc hl H
    obtain ⟨N, rfl⟩ : ∃ N', N = N' + 1 := ⟨N - 1, by omega⟩
    have hk' : k = yc (vy w) := by omega
    subst hk'
    rw [f_L_isHour_b308]
    refine RB.pl (W_alarms (F := F) H.1) H (fun s1 c1 d1 => ?_)
    dsimp only
    have hR := H.1.r.2
    rw [if_pos (Int32.le_refl _)]
    exact I512 hF hL0 he (vR w) F 0 s1 (by omega) (by omega) (by omega) c1
  | succ j ih =>
    intro N k s l13 hk hN hh hc hl H
    obtain ⟨N, rfl⟩ : ∃ N', N = N' + 1 := ⟨N - 1, by omega⟩
    have hkc : k < yc (vy w) := by omega
    obtain ⟨q1, q2, q3, q4, q5⟩ := H.1.ag hkc
    have hR := H.1.r.2
    obtain ⟨n1, n2, n3, n4, n5⟩ := hW.2 k hh hkc
    obtain ⟨q, hq⟩ : ∃ q, q = xq (ya (vy w)) k := ⟨_, rfl⟩
    rw [← hq] at q1 n2 n3
    have hal := fun {s1 : St} (c : CL s1 w A) => C_alarm (F := F) (Z := Z) c hkc
    rw [← hq, n1] at hal
    have ed : io (10000 * q + h) / 10000 = io q := by
      have : io (10000 * q + h) / io 10000 = io ((10000 * q + h) / 10000) := io_div (by omega) (by decide)
      rw [show (10000 * q + h) / 10000 = q by omega] at this; exact this
    have em : io (10000 * q + h) - io (10000 * q + h) / 10000 * 10000 = io h := by
      have : io (10000 * q + h) - io (10000 * q + h) / io 10000 * io 10000 = io ((10000 * q + h) % 10000) := md9 10000 (by omega) (by decide)
      rw [show (10000 * q + h) % 10000 = h by omega] at this; exact this
    have e12 : (12 : Int32) * io q = io (12 * q) := io_mul 12 q
    have e3 : io (12 * q) + 3 = io (12 * q + 3) := io_add _ _
    have ek : io k + 1 = io (k + 1) := io_add _ _
    have er := (lr.1 q q1).2.2.2.1
    rw [n2, if_pos rfl] at er
    have hlt : ¬ io q ≤ l13 := by
      rcases hl with rfl | ⟨i, i1, i2, rfl⟩
      · exact nle_m1 (by omega)
      · have := hW.1 i k i1 i2 hkc
        rw [← hq] at this
        rw [io_le (by omega) (by omega)]; omega
    rw [f_L_isHour_b308]
    refine RB.pl (W_alarms (F := F) H.1) H (fun s1 c1 d1 => ?_)
    dsimp only
    rw [if_neg (show ¬ io (yc (vy w)) ≤ io k by rw [io_le (by omega) (by omega)]; omega), if_neg (show ¬ (1 : Int32) = 0 by decide)]
    refine RB.tk (hal c1) (fun s2 c2 d2 d3 => ?_)
    dsimp only
    refine RB.tk (hal c2) (fun s3 c3 d4 d5 => ?_)
    dsimp only
    rw [em, if_pos rfl, ed, if_neg hlt, show (ix 4 1 : Option Nat) = some 1 from rfl, Option.bind_some, c3.2 39 (by decide), lp.2.1, if_neg (show ¬ io (vR w) ≤ io q by rw [io_le (by omega) (by omega)]; omega), e12, e3, ix_io (show 12 * q + 3 < 48 by omega) (by decide), Option.bind_some, c3.2 42 (by decide), er, if_pos (show io 0 = 0 from rfl)]
    have hwk := C_woken (F := F) (Z := Z) c3 hkc
    -- behind: would it rise, the silences, the next
    have fin : ∀ (s4 : St) (v : Int32), CL s4 w A → ct s4 ≤ C + (k + 1 - had) → RB (f_L_isHour_b410 F Z (f_L_isHour_b308 F Z N) s4 (io h) D (io k) (io q) v v) 1 s4 (C + (yc (vy w) - had)) w A := fun s4 v c4 d6 => by
      rw [f_L_isHour_b410, if_pos rfl]
      obtain ⟨s5, e5, g5, k5⟩ := W_wouldRise (F := F) (Z := sz s4) hF c4.1 hkc
      rw [if_neg n4] at e5
      refine RB.tk (RB.c0 c4 ⟨s5, e5, g5, k5⟩) (fun s6 c6 d7 d8 => ?_)
      dsimp only
      rw [if_neg (show ¬ io 1 = 0 by decide)]
      have hg := H.1.ru.2.1.2.1 q q1
      have hlen := hg.2.2.2.2.2.2.2.2.1
      refine I432 (C := C + (k + 1 - had)) lr hR q1 (by omega) ⟨hlen, hg.2.2.2.2.2.2.2.2.2.1⟩ n3 (fun s7 c7 d9 => ?_) (us (yu (vy w) q)).length F 0 s6 (by omega) (by omega) (by omega) c6
      rw [ek]
      exact ih N (k + 1) s7 (io q) (by omega) (by omega) (by omega) d9 (Or.inr ⟨k, hh, by omega, by rw [hq]⟩) c7
    rcases n5 with ⟨n5, n6⟩ | ⟨p, p1, p2, p3, p4, p5⟩
    · rw [if_neg n6] at hwk
      refine RB.tk hwk (fun s4 c4 d6 d7 => ?_)
      dsimp only
      rw [n5, if_pos rfl]
      refine RB.cal (O_wokenAt_x3 (F := F) (Z := Z) hF c4 (by omega) hkc n6) (by omega) (fun s5 c5 d8 d9 => ?_)
      dsimp only
      rw [if_neg neg_lits.2.2.2]
      have := fin s5 (-1244) c5 (by omega)
      rw [n5] at this; exact this
    · rw [if_pos p3, p4, Nat.add_sub_cancel] at hwk
      refine RB.tk hwk (fun s4 c4 d6 d7 => ?_)
      dsimp only
      rw [p2, if_pos rfl]
      have hat := O_wokenAt (F := F) (Z := Z) c4 hkc p3
      rw [p5] at hat
      refine RB.cal hat (by omega) (fun s5 c5 d8 d9 => ?_)
      dsimp only
      rw [if_pos (ge0 (by omega))]
      have := fin s5 (io h) c5 (by omega)
      rw [p2] at this; exact this
theorem I250 (hF : 5000 ≤ F) (H : CL s w A) (hL : LVx A w) {h had w0 c0 : Nat} {D : Int32} (he : h = yh (vy w)) (hW : NWx w had h D) (h63 : yc (vy w) ≤ 63) (hhad : had ≤ yc (vy w)) (hD : nob 8 D) (hw0 : w0 ≤ had) (hwt : (D = -io 1 → yw (vy w) = w0) ∧ (D ≠ -io 1 → yw (vy w) = yc (vy w) ∧ (h % 8 ≠ 0 → w0 = had))) (hc : ct s ≤ c0) (hZ : c0 + (yc (vy w) - had) ≤ Z) : RB (f_L_isHour_b250 F Z s (io had) (io (had - w0)) (io h) D (io (yc (vy w) - had)) 1) 1 s (c0 + (yc (vy w) - had)) w A := by
  have hh := hL.2.2.2.2.2.2.2
  have hwc := H.1.c.2.2.2
  rw [f_L_isHour_b250, if_neg (show ¬ (1 : Int32) = 0 by decide)]
  refine RB.pl (W_waiting (F := F) H.1) H (fun s1 c1 d1 => ?_)
  dsimp only
  have e8 : io h - io h / 8 * 8 = io (h % 8) := md9 8 (by omega) (by omega)
  have fin : ∀ v : Int32, RB (f_L_isHour_b291 F Z s1 (io had) (io h) D v v) 1 s1 (c0 + (yc (vy w) - had)) w A := fun v => by
    rw [f_L_isHour_b291, if_pos rfl]
    exact I308 hF hL he hW h63 hZ (yc (vy w) - had) F had s1 (-1) (by omega) (by omega) (Nat.le_refl _) (by omega) (Or.inl rfl) c1
  rcases hD with hD | ⟨p, hp, hD⟩
  · rw [hD, if_pos neg_lits.2.2.1, if_neg neg_lits.2.2.2]
    have h1 := hwt.1 hD
    have e1 : io (had - w0) + io (yc (vy w) - had) = io (yc (vy w) - yw (vy w)) := by rw [io_add]; congr 1; omega
    rw [e1, ← hD]
    exact fin _
  · have hne : D ≠ -io 1 := by rw [hD, ne_eq, io_neg1 (by omega)]; exact id
    obtain ⟨h1, h2⟩ := hwt.2 hne
    have ez : yc (vy w) - yw (vy w) = 0 := by omega
    rw [if_neg (show ¬ D < 0 by rw [hD]; exact nn0 (by omega)), e8, ez]
    by_cases h8 : h % 8 = 0
    · rw [if_pos (show io (h % 8) = 0 by rw [h8]; rfl)]; exact fin _
    · rw [if_neg (nz0 (by omega) h8), if_pos (show (0 : Int32) ≤ D by rw [hD]; exact ge0 (by omega))]
      have : had - w0 = 0 := by have := h2 h8; omega
      rw [this]; exact fin _
/-- the hour of the law -/
theorem L_isHour (hF : 5000 ≤ F) (H : CL s w A) {c : Nat} (hI : IVx c w A) (h440 : yh (vy w) < 440) (h64 : yc (vy w) + vR w < 64) (hZ : ct s + 4 ≤ Z) : RPx (f_L_isHour F Z s) 1 s (ct s + 4) (IVx c) := by
  obtain ⟨hL, hd, h63⟩ := hI
  have hL0 := hL
  obtain ⟨lp, lg, lf, lr, la, ln, lm, ly⟩ := hL
  have hn := H.1.n.2
  have hR := H.1.r.2
  have hwc := H.1.c.2.2.2
  have GF0 := H.1.2.1
  have h1000 : yh (vy w) + 1 ≤ 1000 := by omega
  obtain ⟨h, hh⟩ : ∃ h, h = yh (vy w) + 1 := ⟨_, rfl⟩
  obtain ⟨D, hDe⟩ : ∃ D, D = duV (vn w) (vy w) := ⟨_, rfl⟩
  have hnob := H_nob GF0 hn h1000
  rw [← hDe] at hnob
  obtain ⟨o1, o2, o3, o4⟩ := H_ho GF0 hn h1000
  obtain ⟨w1, w2, w3⟩ := H_wait GF0 hn h1000
  obtain ⟨n1, n2, n3, n4⟩ := H_new GF0 hn h1000
  have hfew := H_few GF0 hn h1000
  have hdebt := H_debt GF0 ln hn h1000
  have hGN := GN.hour GF0 ln hn h1000
  rw [← hDe] at o2 w2 w3 n4 hdebt
  rw [← hh] at o1 o2 w3 n4 hdebt
  obtain ⟨g1, -, -, -, g5⟩ := gB_all (vn w) (vy w)
  have eof : gof (yg (vy (whr w))) = gof (yg (vy w)) := by show gof (yg (gH _ _ _ _ _)) = _; rw [o4]; exact g5
  have hh8 : h / 8 < 64 := by omega
  obtain ⟨Gr, K⟩ := H.g
  have hd4 := K.1
  -- who is planned first, if the hour begins a shift
  obtain ⟨first, hfi⟩ : ∃ x : Int32, x = if vn w = 0 then -io 1 else if h % 8 = 0 then plan2 (yg (vy w)) (vn w) (h / 8) else -io 1 := ⟨_, rfl⟩
  obtain ⟨ow, how⟩ : ∃ x : Int32, x = if D = -io 1 then 0 else if first = -io 1 then 0 else io (owe (yg (vy w)) (yd (vy w)) (cl D) (cl first)) := ⟨_, rfl⟩
  -- from the passing on
  have go113 : ∀ s1, CL s1 w A → ct s1 = ct s → RPx (f_L_isHour_b113 F Z s1 (io (yc (vy w))) (io (yc (vy w) - yw (vy w))) (io h) D first ow) 1 s1 (ct s + 4) (IVx c) := by
    intro s1 c1 d1
    obtain ⟨had, hhad⟩ : ∃ x, x = yc (vy w) := ⟨_, rfl⟩
    obtain ⟨w', hw'⟩ : ∃ x, x = whr w := ⟨_, rfl⟩
    have yh' : yh (vy w') = h := by rw [hw']; exact o1
    have yc' : yc (vy w') = yc (gH (vL w) (vm w) (vn w) (vR w) (vy w)) := by rw [hw']; rfl
    have yw' : yw (vy w') = yw (gH (vL w) (vm w) (vn w) (vR w) (vy w)) := by rw [hw']; rfl
    have yd' : yd (vy w') = yd (gH (vL w) (vm w) (vn w) (vR w) (vy w)) := by rw [hw']; rfl
    have yg' : yg (vy w') = yg (gH (vL w) (vm w) (vn w) (vR w) (vy w)) := by rw [hw']; rfl
    have ya' : ya (vy w') = ya (gH (vL w) (vm w) (vn w) (vR w) (vy w)) := by rw [hw']; rfl
    have yu' : yu (vy w') = yu (gH (vL w) (vm w) (vn w) (vR w) (vy w)) := by rw [hw']; rfl
    have vs' : vL w' = vL w ∧ vm w' = vm w ∧ vn w' = vn w ∧ vR w' = vR w := by rw [hw']; exact ⟨rfl, rfl, rfl, rfl⟩
    rw [← yc'] at w1 w3 n3 n4 hfew
    rw [← yw'] at w2 w3
    rw [← yd'] at hdebt
    rw [← yg'] at o2 hdebt
    rw [← ya'] at n1 n3 n4
    rw [← yu'] at n2
    rw [← hw'] at eof
    rw [← hhad] at w1 w3 n3 n4 hfew h64 h63 hwc n1
    -- the law's arrays afterwards
    have LV' : ∀ B : LA, (∀ k, k ≠ 39 → B k = A k) → B 39 0 = A 39 0 → B 39 1 = A 39 1 → B 39 2 = A 39 2 → B 39 3 = io (yd (vy w')) → LVx B w' := fun B b1 b2 b3 b4 b5 => by
      refine ⟨⟨by rw [b2, vs'.2.2.1]; exact lp.1, by rw [b3, vs'.2.2.2]; exact lp.2.1, by rw [b4, vs'.2.1]; exact lp.2.2.1, b5⟩, ?_, ?_, ?_, ?_, ?_, by rw [vs'.2.1]; exact lm, by rw [yh']; omega⟩
      · unfold GH; rw [b1 40 (by decide), vs'.1, vs'.2.1]; exact lg
      · intro j hj; rw [b1 41 (by decide), eof]; exact lf j hj
      · refine ⟨fun r hr => ?_, fun r hr hr4 => ?_⟩
        · rw [vs'.2.2.2] at hr
          rw [b1 42 (by decide)]
          obtain ⟨u1, u2, u3, u4, u5, u6, u7, u8⟩ := n2 r
          have := lr.1 r hr
          unfold rlow at this ⊢
          rw [u3, u4, u5, u7, u8]; exact this
        · rw [vs'.2.2.2] at hr
          rw [b1 42 (by decide)]; exact lr.2 r hr hr4
      · intro i hi
        rw [b1 44 (by decide), la i hi]
        congr 1
        by_cases hi2 : i < yc (vy w)
        · rw [if_pos hi2, if_pos (by omega), n1 i (by omega)]
        · rw [if_neg hi2]
          by_cases hi3 : i < yc (vy w')
          · rw [if_pos hi3]; exact (n4 i (by omega) hi3).2.2.1.symm
          · rw [if_neg hi3]
      · rw [vs'.2.2.1, vs'.2.2.2, hw']; exact hGN
    have hyd : yd (vy w') ≤ c := by
      rcases hdebt with ⟨q, -⟩ | ⟨q, p, -, -, -, -, -, -, -, -, -, -, q2, q3⟩
      · omega
      · omega
    have h63' : yc (vy w') ≤ 63 := by omega
    have NW' : NWx w' had h D := by
      refine ⟨n3, fun i hi1 hi2 => ?_⟩
      obtain ⟨m1, m2, m3, m4, m5, m6, m7⟩ := n4 i hi1 hi2
      obtain ⟨u1, u2, u3, u4, u5, u6, u7, u8⟩ := n2 (xq (ya (vy w')) i)
      refine ⟨m2, by rw [u7]; exact m4, by rw [u8]; exact m5, ?_, ?_⟩
      · unfold wri
        rw [m2, u2, u4, yh', vs'.1, vs'.2.1]
        have hpk : pks (vL w) (vm w) (h + 1 - uw (yu (vy w) (xq (ya (vy w')) i))) h h = pks (vL w) (vm w) (h + 1 - uw (yu (vy w) (xq (ya (vy w')) i))) h (yh (vy w)) := by
          unfold pks
          refine List.filter_congr fun x hx => ?_
          have hx' := List.mem_range.mp hx
          obtain ⟨-, -, -, -, f1, f2, -⟩ := GF0.2.2.2.2.2.2.2.2.2.1 x hx'
          unfold inW
          rw [decide_eq_decide]
          constructor
          · intro cc; exact ⟨cc.1, cc.2.1, f2⟩
          · intro cc; exact ⟨cc.1, cc.2.1, by omega⟩
        rw [hpk]; exact m6
      · rcases hnob with hD | ⟨p, hp, hD⟩
        · left
          refine ⟨hD, ?_⟩
          rw [w2 hD]; omega
        · right
          have hne : D ≠ -io 1 := by rw [hD, ne_eq, io_neg1 (by omega)]; exact id
          obtain ⟨t1, t2⟩ := m7 p (by omega) hD
          exact ⟨p, by omega, hD, by rw [(w3 hne).1]; exact hi2, t1, t2⟩
    have nob8 : nob 8 D := hnob.elim Or.inl (fun ⟨p, hp, hD⟩ => Or.inr ⟨p, by omega, hD⟩)
    have wt' : (D = -io 1 → yw (vy w') = yw (vy w)) ∧ (D ≠ -io 1 → yw (vy w') = yc (vy w') ∧ (h % 8 ≠ 0 → yw (vy w) = had)) := ⟨w2, fun x => ⟨(w3 x).1, fun y => (w3 x).2 y⟩⟩
    have e8 : io h / 8 = io (h / 8) := io_div (by omega) (b := 8) (by decide)
    have hpass := A_pass (F := F) (Z := Z) hF c1 h1000
    rw [← hw', ← hhad] at hpass
    rw [← hhad, f_L_isHour_b113]
    refine RPx.cal hpass (by omega) (fun s2 c2 d2 d3 => ?_)
    dsimp only
    rw [if_neg (nn0 (a := yc (vy w') - had) (by omega))]
    have wn := W_now (F := F) c2.1
    rw [yh'] at wn
    refine RPx.pl wn c2 (fun s3 c3 d4 => ?_)
    dsimp only
    rw [if_pos rfl]
    refine RPx.pl (W_alarms (F := F) c3.1) c3 (fun s4 c4 d5 => ?_)
    dsimp only
    rw [if_pos (show io (yc (vy w')) = io had + io (yc (vy w') - had) by rw [io_add]; congr 1; omega), e8]
    have hho := C_holder (F := F) (Z := Z) c4 (j := h / 8) (by rw [yh']; exact Nat.le_refl _)
    rw [o2] at hho
    refine RPx.tk hho (fun s5 c5 d6 d7 => ?_)
    dsimp only
    rw [if_pos rfl]
    -- the payment
    have same : ∀ s6, CL s6 w' A → ct s6 ≤ ct s → yd (vy w') = yd (vy w) → RPx (f_L_isHour_b250 F Z s6 (io had) (io (had - yw (vy w))) (io h) D (io (yc (vy w') - had)) 1) 1 s6 (ct s + 4) (IVx c) := fun s6 c6 d8 hy => by
      have L' := LV' A (fun _ _ => rfl) rfl rfl rfl (by rw [hy]; exact lp.2.2.2)
      exact (RB.rp (I250 hF c6 L' yh'.symm NW' h63' w1 nob8 (by omega) wt' d8 (by omega)) ⟨L', hyd, h63'⟩).le (by omega)
    rw [f_L_isHour_b171, if_neg (show ¬ (1 : Int32) = 0 by decide)]
    rcases hdebt with ⟨hy, hq⟩ | ⟨q, p, hq, hp, h8, ep, eD, hpq, hof, hj3, hpos, hafter, hy, hy1⟩
    · by_cases hz : vn w = 0 ∨ h % 8 ≠ 0
      · have hf : first = -io 1 := by
          rw [hfi]
          by_cases z : vn w = 0
          · rw [if_pos z]
          · rw [if_neg z, if_neg (hz.resolve_left z)]
        rw [if_pos (show first < 0 by rw [hf]; exact neg_lits.2.2.1)]
        exact same s5 c5 (by omega) hy
      · have hz1 : vn w ≠ 0 := fun z => hz (Or.inl z)
        have hz2 : h % 8 = 0 := Classical.byContradiction fun z => hz (Or.inr z)
        obtain ⟨q, hq9, ep, hor⟩ := (hq.resolve_left (fun z => z hz2)).resolve_left hz1
        have hf : first = io q := by rw [hfi, if_neg hz1, if_pos hz2, ep]
        rw [if_neg (show ¬ first < 0 by rw [hf]; exact nn0 (by omega))]
        by_cases hDf : D = first
        · rw [if_pos hDf]; exact same s5 c5 (by omega) hy
        · have hof := hor.resolve_left (fun z => hDf (by rw [z, hf]))
          have hg := (Gr (h / 8) (by omega)).2.1
          rw [if_neg hDf, e8, ix_io (show h / 8 < 64 by omega) (by decide), Option.bind_some, c5.2 41 (by decide), lf _ hh8, hf, bitq hg (by omega), if_pos hof, if_neg (show ¬ io 1 = 0 by decide)]
          exact same s5 c5 (by omega) hy
    · have hz1 : vn w ≠ 0 := by omega
      have hf : first = io q := by rw [hfi, if_neg hz1, if_pos h8, ep]
      have how' : ow = io (owe (yg (vy w)) (yd (vy w)) p q) := by
        rw [how, if_neg (by rw [eD, io_neg1 (by omega)]; exact id), if_neg (by rw [hf, io_neg1 (by omega)]; exact id), eD, hf, cl_io (by omega), cl_io (by omega)]
      have hg := (Gr (h / 8) (by omega)).2.1
      have hcl : owe (yg (vy w)) (yd (vy w)) p q ≤ yd (vy w) := cnt_le _ _
      have e3 : io (h / 8) - io (h / 8) / 3 * 3 = io (h / 8 % 3) := md9 3 (by omega) (by omega)
      rw [if_neg (show ¬ first < 0 by rw [hf]; exact nn0 (by omega)), if_neg (show ¬ D = first by rw [eD, hf, io_eq (by omega) (by omega)]; exact hpq), e8, ix_io (show h / 8 < 64 by omega) (by decide), Option.bind_some, c5.2 41 (by decide), lf _ hh8, hf, bitq hg (by omega), hof]
      rw [if_neg (show ¬ false = true by decide), if_pos (show io 0 = 0 from rfl), how', if_neg (show ¬ io (owe (yg (vy w)) (yd (vy w)) p q) ≤ 0 from by
        show ¬ io (owe (yg (vy w)) (yd (vy w)) p q) ≤ io 0
        rw [io_le (by omega) (by decide)]; omega), e3, if_pos (show io (h / 8 % 3) = 0 by rw [hj3]; rfl), eD]
      have hoa := C_owes (F := F) (Z := Z) hF c5 (a := p) (b := q) (by rw [vs'.2.2.1]; exact hp) (by rw [vs'.2.2.1]; exact hq)
      rw [hafter] at hoa
      refine RPx.tk hoa (fun s6 c6 d8 d9 => ?_)
      dsimp only
      rw [if_pos (show io (owe (yg (vy w)) (yd (vy w)) p q - 1) = io (owe (yg (vy w)) (yd (vy w)) p q) - 1 from (io_sub hpos).symm), show (ix 4 3 : Option Nat) = some 3 from rfl, Option.bind_some, Option.bind_some, lt_def]
      have e39 : gA s6 39 3 = io (yd (vy w)) := by rw [c6.2 39 (by decide)]; exact lp.2.2.2
      have e40 : io (yd (vy w)) - 1 = io (yd (vy w) - 1) := io_sub hy1
      rw [e39, e40]
      have c7 := c6.wA (k := 39) (by decide) 3 (io (yd (vy w) - 1))
      obtain ⟨s7, hs7⟩ : ∃ s7, s7 = sA s6 39 3 (io (yd (vy w) - 1)) := ⟨_, rfl⟩
      rw [← hs7] at c7 ⊢
      have hct : ct s7 = ct s6 := by rw [hs7]; rfl
      refine RPx.mv (s := s7) ?_ hct.symm
      have L' := LV' (upA A 39 (ups (A 39) 3 (io (yd (vy w) - 1)))) (fun k hk => upA_ne _ hk) (by rw [upA_self]; rfl) (by rw [upA_self]; rfl) (by rw [upA_self]; rfl) (by rw [upA_self, hy]; rfl)
      rw [← eD]
      exact (RB.rp (I250 (c0 := ct s) hF c7 L' yh'.symm NW' h63' w1 nob8 (by omega) wt' (by omega) (by omega)) ⟨L', hyd, h63'⟩).le (by omega)
  -- what was owed
  have go89 : ∀ s1, CL s1 w A → ct s1 = ct s → RPx (f_L_isHour_b89 F Z s1 (io (yc (vy w))) (io (yc (vy w) - yw (vy w))) (io h) D first) 1 s1 (ct s + 4) (IVx c) := by
    intro s1 c1 d1
    have g := go113
    rw [f_L_isHour_b89]
    rcases hnob with hD | ⟨p, hp, hD⟩
    · rw [if_pos (show D < 0 by rw [hD]; exact neg_lits.2.2.1)]
      rw [if_pos hD] at how
      rw [how] at g
      exact g s1 c1 d1
    · have hne : ¬ D = -io 1 := by rw [hD, io_neg1 (by omega)]; exact id
      rw [if_neg (show ¬ D < 0 by rw [hD]; exact nn0 (by omega))]
      rw [if_neg hne] at how
      by_cases hf : first = -io 1
      · rw [if_pos hf] at how
        rw [if_neg (show ¬ (0 : Int32) ≤ first by rw [hf]; exact neg_lits.2.2.2)]
        rw [how] at g
        exact g s1 c1 d1
      · rw [if_neg hf] at how
        have hq : ∃ q, q < vn w ∧ first = io q := by
          by_cases z : vn w = 0
          · rw [if_pos z] at hfi; exact absurd hfi hf
          · rw [if_neg z] at hfi
            by_cases z2 : h % 8 = 0
            · rw [if_pos z2] at hfi
              obtain ⟨q, q1, q2⟩ := plan2_some Gr (show h / 8 < 126 by omega) z
              exact ⟨q, q1, hfi.trans q2⟩
            · rw [if_neg z2] at hfi; exact absurd hfi hf
        obtain ⟨q, hq, hf2⟩ := hq
        rw [if_pos (show (0 : Int32) ≤ first by rw [hf2]; exact ge0 (by omega))]
        rw [hD, hf2, cl_io (by omega), cl_io (by omega)] at how
        have hco := C_owes (F := F) (Z := Z) hF c1 hp hq
        rw [← how, ← hD, ← hf2] at hco
        refine RPx.tk hco (fun s2 c2 d2 d3 => ?_)
        dsimp only
        exact g s2 c2 (by omega)
  have go55 : ∀ s1, CL s1 w A → ct s1 = ct s → RPx (f_L_isHour_b55 F Z s1 (io (yc (vy w))) (io (yc (vy w) - yw (vy w))) (io h) D) 1 s1 (ct s + 4) (IVx c) := by
    intro s1 c1 d1
    have g := go89
    have e8 : io h - io h / 8 * 8 = io (h % 8) := md9 8 (by omega) (by omega)
    have e9 : io h / 8 = io (h / 8) := io_div (by omega) (b := 8) (by decide)
    rw [f_L_isHour_b55, show (ix 4 0 : Option Nat) = some 0 from rfl, Option.bind_some, c1.2 39 (by decide), lp.1]
    by_cases z : vn w = 0
    · rw [if_pos z] at hfi
      rw [hfi] at g
      rw [if_pos (show io (vn w) = 0 by rw [z]; rfl)]
      exact g s1 c1 d1
    · rw [if_neg z] at hfi
      rw [if_neg (nz0 (by omega) z), e8, e9]
      by_cases z2 : h % 8 = 0
      · rw [if_pos z2] at hfi
        rw [if_pos (show io (h % 8) = 0 by rw [z2]; rfl)]
        have hpl := C_planned (F := F) (Z := Z) c1 (j := h / 8) (by omega) (by omega)
        rw [← hfi] at hpl
        refine RPx.tk hpl (fun s2 c2 d2 d3 => ?_)
        dsimp only
        exact g s2 c2 (by omega)
      · rw [if_neg z2] at hfi
        rw [hfi] at g
        rw [if_neg (nz0 (by omega) z2)]
        exact g s1 c1 d1
  have e1 : io (yh (vy w)) + 1 = io h := by rw [hh]; exact io_add _ _
  have e8 : io h - io h / 8 * 8 = io (h % 8) := md9 8 (by omega) (by omega)
  have e9 : io h / 8 = io (h / 8) := io_div (by omega) (b := 8) (by decide)
  rw [f_L_isHour]
  refine RPx.pl (W_alarms (F := F) H.1) H (fun s1 c1 d1 => ?_)
  dsimp only
  refine RPx.pl (W_waiting (F := F) c1.1) c1 (fun s2 c2 d2 => ?_)
  dsimp only
  refine RPx.pl (W_now (F := F) c2.1) c2 (fun s3 c3 d3 => ?_)
  dsimp only
  rw [e1, e8]
  by_cases z2 : h % 8 = 0
  · rw [if_pos (show io (h % 8) = 0 by rw [z2]; rfl)]
    have hnx := W_next (F := F) hF c3.1 (by omega)
    have hDD : D = hold2 (yg (vy w)) (vn w) (yd (vy w)) (yh (vy w) / 8 + 1) := by
      rw [hDe]; unfold duV
      rw [← hh, if_pos z2, show h / 8 = yh (vy w) / 8 + 1 by omega]
    rw [← hDD] at hnx
    refine RPx.pl hnx c3 (fun s4 c4 d4 => ?_)
    dsimp only
    exact go55 s4 c4 (by omega)
  · rw [if_neg (nz0 (by omega) z2)]
    have hDD : D = gho (yg (vy w)) (h / 8) := by
      rw [hDe]; unfold duV
      rw [← hh, if_neg z2]
    by_cases z3 : 8 ≤ h
    · rw [if_pos (show (8 : Int32) ≤ io h from by
        show io 8 ≤ io h
        rw [io_le (by omega) (by omega)]; exact z3), e9]
      have hho := C_holder (F := F) (Z := Z) c3 (j := h / 8) (by omega)
      rw [← hDD] at hho
      refine RPx.tk hho (fun s4 c4 d4 d5 => ?_)
      dsimp only
      exact go55 s4 c4 (by omega)
    · rw [if_neg (show ¬ (8 : Int32) ≤ io h from by
        show ¬ io 8 ≤ io h
        rw [io_le (by omega) (by omega)]; exact z3)]
      have : D = -io 1 := by rw [hDD, show h / 8 = 0 by omega]; exact ln.1
      have g := go55 s3 c3 (by omega)
      rw [this] at g
      exact g
end IH
