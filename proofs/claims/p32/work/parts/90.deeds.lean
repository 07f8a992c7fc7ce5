/-! the deeds of the law's loop -/
theorem arr_ru {f g : Nat → Int32} {b : Nat} {u : RU} (h : rlow u f b) (e : ∀ i, i < 12 → g (b + i) = f (b + i)) (hl : (us u).length ≤ 5) : rlow u g b := by
  obtain ⟨h1, h2, h3, h4, h5, h6⟩ := h
  refine ⟨(e 0 (by decide)).trans h1, (e 1 (by decide)).trans h2, (e 2 (by decide)).trans h3, (e 3 (by decide)).trans h4, (e 4 (by decide)).trans h5, fun i hi => ?_⟩
  have := e (5 + i) (by omega)
  rw [← Nat.add_assoc] at this
  exact this.trans (h6 i hi)
section LD9
variable {L : Nat} {xs : Nat → Int32} {F Z : Nat} {s : St} {w : WD} {A : LA} {n X v : Nat} {K : St → Int32 → Int32 → Option (Int32 × St)}
/-- days off -/
theorem M_off (hB : BOK L xs F Z n X v K) (hn : n < 100) (hZ : 9000 ≤ Z) (hF : 5000 ≤ F) (hv : v < 100000000) (H : CL s w A) (hI : IVx n w A) (hc : ct s ≤ Cn n) {p : Nat} (hp : p < vn w) {l8 l12 : Int32} (h12 : ¬ (20 : Int32) ≤ l12) : RPx (f_L_law_b863 L xs F Z K s l8 (io n) (io X) (io v) l12 (io (yh (vy w) / 8)) (io p)) 1 s 9000 TTx := by
  have hCn := Cn_le (n := n) (by omega)
  obtain ⟨⟨lp, lg, lf, lr, la, ln, lm, ly⟩, hd, h63⟩ := hI
  have hn8 := H.1.n.2
  obtain ⟨j, hj⟩ : ∃ j, j = yh (vy w) / 8 + 1 + v / 5 % 6 := ⟨_, rfl⟩
  have m6 := Nat.mod_lt (v / 5) (show 6 > 0 by decide)
  have e1 : io (yh (vy w) / 8) + 1 + (io v / 5 - io v / 5 / 6 * 6) = io j := by
    have h1 : io v / 5 = io (v / 5) := io_div (by omega) (b := 5) (by decide)
    have h2 : io (v / 5) - io (v / 5) / 6 * 6 = io (v / 5 % 6) := md9 6 (by omega) (by omega)
    have h3 : io (yh (vy w) / 8) + 1 = io (yh (vy w) / 8 + 1) := io_add _ _
    rw [h1, h2, h3, hj]; exact io_add _ _
  have e2 : (1 : Int32) <<< (io p &&& 31) = io (2 ^ p) := by
    have h1 : io p &&& 31 = io p := by
      have : io p &&& io 31 = io (p &&& 31) := io_and _ _
      rw [and31 (by omega)] at this; exact this
    have h2 : (1 : Int32) <<< io p = io (1 <<< p) := io_shl (a := 1) (by omega)
    rw [h1, h2, one_shl]
  have e3 : gA s 41 j = io (gof (yg (vy w)) j) := by rw [H.2 41 (by decide)]; exact lf j (by omega)
  rw [f_L_law_b863, if_neg h12, e1, ix_io (show j < 64 by omega) (by decide), Option.bind_some, Option.bind_some, lt_def, e3, e2, io_xor]
  have c1 := H.wA (k := 41) (by decide) j (io (gof (yg (vy w)) j ^^^ 2 ^ p))
  obtain ⟨s1, hs1⟩ : ∃ s1, s1 = sA s 41 j (io (gof (yg (vy w)) j ^^^ 2 ^ p)) := ⟨_, rfl⟩
  obtain ⟨B, hBe⟩ : ∃ B, B = upA A 41 (ups (A 41) j (io (gof (yg (vy w)) j ^^^ 2 ^ p))) := ⟨_, rfl⟩
  rw [← hs1, ← hBe] at c1
  rw [← hs1]
  have hct : ct s1 = ct s := by rw [hs1]; rfl
  refine RPx.mv (s := s1) ?_ hct.symm
  have hg := (H.g.1 j (by omega)).2.1
  have hg2 : gof (yg (vy w)) j ^^^ 2 ^ p < 256 := Nat.xor_lt_two_pow (n := 8) hg (pow_lt8 (by omega))
  refine RPx.cal (A_off (F := F) (Z := Z) hF c1 hp (show yh (vy w) / 8 < j by omega) (by omega)) (by omega) (fun s2 c2 d1 d2 => ?_)
  dsimp only
  have b41 : B 41 j = io (gof (yg (vy w)) j ^^^ 2 ^ p) := by rw [hBe, upA_self]; exact if_pos rfl
  have bo : ∀ k, k ≠ 41 → B k = A k := fun k hk => by rw [hBe, upA_ne _ hk]
  rw [Option.bind_some, c2.2 41 (by decide), b41, bitq hg2 (by omega), if_pos rfl]
  refine hB s2 _ B c2 ⟨⟨?_, ?_, fun i hi => ?_, ?_, ?_, GN.off H.1.2.1 ln hp (by omega), lm, ly⟩, Nat.le_succ_of_le hd, h63⟩ (by omega)
  · unfold APx; rw [bo 39 (by decide)]; exact lp
  · unfold GH; rw [bo 40 (by decide)]; exact lg
  · show B 41 i = io (ups (gof (yg (vy w))) j (gof (yg (vy w)) j ^^^ 2 ^ p) i)
    rw [hBe, upA_self]
    unfold ups
    by_cases h : i = j
    · rw [if_pos h, if_pos h]
    · rw [if_neg h, if_neg h]; exact lf i hi
  · unfold ARx; rw [bo 42 (by decide)]; exact lr
  · unfold AAx; rw [bo 44 (by decide)]; exact la
/-- the hours -/
theorem M_hours (hB : BOK L xs F Z n X v K) (hn : n < 100) (hZ : 9000 ≤ Z) (hF : 5000 ≤ F) {many : Nat} (hm : many ≤ 12) : ∀ (j N k : Nat) (s : St) (w : WD) (A : LA), k + j = many → j < N → CL s w A → IVx n w A → ct s ≤ Cn n + 4 * k → RPx (f_L_law_b1045 L xs F Z K N s 1 (io n) (io X) (io v) (io many) (io k)) 1 s 9000 TTx := by
  have hCn := Cn_le (n := n) (by omega)
  intro j
  induction j with
  | zero =>
    intro N k s w A hk hN H hI hc
    obtain ⟨N, rfl⟩ : ∃ N', N = N' + 1 := ⟨N - 1, by omega⟩
    rw [f_L_law_b1045, if_pos (show io many ≤ io k by rw [io_le (by omega) (by omega)]; omega)]
    exact hB s w A H hI.up (by omega)
  | succ j ih =>
    intro N k s w A hk hN H hI hc
    obtain ⟨N, rfl⟩ : ∃ N', N = N' + 1 := ⟨N - 1, by omega⟩
    have hR := H.1.r.2
    have lp := hI.1.1
    have ek : io k + 1 = io (k + 1) := io_add _ _
    have h63 := hI.2.2
    have h440 := hI.1.2.2.2.2.2.2.2
    rw [f_L_law_b1045, if_neg (show ¬ io many ≤ io k by rw [io_le (by omega) (by omega)]; omega), if_neg (show ¬ (1 : Int32) = 0 by decide)]
    refine RPx.pl (W_alarms (F := F) H.1) H (fun s1 c1 d1 => ?_)
    dsimp only
    have e1 : io (yc (vy w)) + io (vR w) = io (yc (vy w) + vR w) := io_add _ _
    rw [show (ix 4 1 : Option Nat) = some 1 from rfl, Option.bind_some, c1.2 39 (by decide), lp.2.1, e1]
    by_cases h64 : 64 ≤ yc (vy w) + vR w
    · rw [if_pos (show (64 : Int32) ≤ io (yc (vy w) + vR w) from by
        show io 64 ≤ io (yc (vy w) + vR w)
        rw [io_le (by decide) (by omega)]; exact h64)]
      exact hB s1 w A c1 hI.up (by omega)
    · rw [if_neg (show ¬ (64 : Int32) ≤ io (yc (vy w) + vR w) from by
        show ¬ io 64 ≤ io (yc (vy w) + vR w)
        rw [io_le (by decide) (by omega)]; exact h64)]
      refine RPx.pl (W_now (F := F) c1.1) c1 (fun s2 c2 d2 => ?_)
      dsimp only
      by_cases h44 : 440 ≤ yh (vy w)
      · rw [if_pos (show (440 : Int32) ≤ io (yh (vy w)) from by
          show io 440 ≤ io (yh (vy w))
          rw [io_le (by decide) (by omega)]; exact h44)]
        exact hB s2 w A c2 hI.up (by omega)
      · rw [if_neg (show ¬ (440 : Int32) ≤ io (yh (vy w)) from by
          show ¬ io 440 ≤ io (yh (vy w))
          rw [io_le (by decide) (by omega)]; exact h44)]
        refine RPx.calP (L_isHour (F := F) (Z := Z) hF c2 hI (by omega) (by omega) (by omega)) (by omega) (fun s3 w3 A3 c3 p3 d3 d4 => ?_)
        dsimp only
        rw [ek]
        exact ih N (k + 1) s3 w3 A3 (by omega) (by omega) c3 p3 (by omega)
theorem M1021 (hB : BOK L xs F Z n X v K) (hn : n < 100) (hZ : 9000 ≤ Z) (hF : 5000 ≤ F) (hv : v < 100000000) (H : CL s w A) (hI : IVx n w A) (hc : ct s ≤ Cn n) : RPx (f_L_law_b1021 L xs F Z K s 1 (io n) (io X) (io v)) 1 s 9000 TTx := by
  have m12 := Nat.mod_lt v (show 12 > 0 by decide)
  have m5 := Nat.mod_lt v (show 5 > 0 by decide)
  have e12 : (1 : Int32) + (io v - io v / 12 * 12) = io (1 + v % 12) := by
    have h1 : io v - io v / 12 * 12 = io (v % 12) := md9 12 (by omega) (by omega)
    rw [h1]; exact io_add 1 _
  have e5 : (1 : Int32) + (io v - io v / 5 * 5) = io (1 + v % 5) := by
    have h1 : io v - io v / 5 * 5 = io (v % 5) := md9 5 (by omega) (by omega)
    rw [h1]; exact io_add 1 _
  rw [f_L_law_b1021, e12, e5]
  by_cases h7 : io v - io v / 7 * 7 = 0
  · rw [if_pos h7]
    exact M_hours hB hn hZ hF (many := 1 + v % 12) (by omega) (1 + v % 12) F 0 s w A (by omega) (by omega) H hI (by omega)
  · rw [if_neg h7]
    exact M_hours hB hn hZ hF (many := 1 + v % 5) (by omega) (1 + v % 5) F 0 s w A (by omega) (by omega) H hI (by omega)
theorem M863 (hB : BOK L xs F Z n X v K) (hn : n < 100) (hZ : 9000 ≤ Z) (hF : 5000 ≤ F) (hv : v < 100000000) (H : CL s w A) (hI : IVx n w A) (hc : ct s ≤ Cn n) {p : Nat} (hp : p < vn w) {how : Nat} (hh : how < 32) : RPx (f_L_law_b863 L xs F Z K s 1 (io n) (io X) (io v) (io how) (io (yh (vy w) / 8)) (io p)) 1 s 9000 TTx := by
  have hCn := Cn_le (n := n) (by omega)
  have g20 : ((20 : Int32) ≤ io how) = (20 ≤ how) := io_le (by decide) (by omega)
  have g22 : ((22 : Int32) ≤ io how) = (22 ≤ how) := io_le (by decide) (by omega)
  have g25 : ((25 : Int32) ≤ io how) = (25 ≤ how) := io_le (by decide) (by omega)
  by_cases h20 : 20 ≤ how
  · rw [f_L_law_b863, if_pos (by rw [g20]; exact h20)]
    by_cases h22 : 22 ≤ how
    · rw [if_pos (by rw [g22]; exact h22)]
      by_cases h25 : 25 ≤ how
      · rw [if_pos (by rw [g25]; exact h25)]
        exact M1021 hB hn hZ hF hv H hI hc
      · rw [if_neg (by rw [g25]; exact h25)]
        have h63 := hI.2.2
        refine RPx.pl (W_alarms (F := F) H.1) H (fun s1 c1 d1 => ?_)
        dsimp only
        simp only [le0 (show yc (vy w) < 2147483648 by omega)]
        by_cases hz : yc (vy w) ≤ 0
        · rw [if_pos hz]
          exact M1021 hB hn hZ hF hv c1 hI (by omega)
        · rw [if_neg hz]
          refine RPx.pl (W_alarms (F := F) c1.1) c1 (fun s2 c2 d2 => ?_)
          dsimp only
          have e2 : io v / 2 = io (v / 2) := io_div (by omega) (b := 2) (by decide)
          have e3 : io (v / 2) - io (v / 2) / io (yc (vy w)) * io (yc (vy w)) = io (v / 2 % yc (vy w)) := md9 (yc (vy w)) (by omega) (by omega)
          have hmod := Nat.mod_lt (v / 2) (show yc (vy w) > 0 by omega)
          rw [if_neg (nz0 (by omega) (show yc (vy w) ≠ 0 by omega)), e2, e3]
          have ans : ∀ b, b ≤ 1 → RPx ((f_L_isAnswered F Z s2 (io (v / 2 % yc (vy w))) (io b)).bind fun x36 => (if ct s2 ≤ ct x36.2 ∧ ct x36.2 ≤ Z then (f_L_law_b1098 L xs F Z K x36.2 x36.1 (io n) (io X) (io v)) else none)) 1 s2 9000 TTx := fun b hb => by
            refine RPx.calP (L_isAnswered (F := F) (Z := Z) hF c2 hI (by omega) hmod hb (by omega)) (by omega) (fun s3 w3 A3 c3 p3 d3 d4 => ?_)
            dsimp only
            exact hB s3 w3 A3 c3 p3 (by omega)
          by_cases hev : io v - io (v / 2) * 2 = 0
          · rw [if_pos hev]; exact ans 1 (by decide)
          · rw [if_neg hev]; exact ans 0 (by decide)
    · rw [if_neg (by rw [g22]; exact h22)]
      have m1 := Nat.mod_lt v (show 6 > 0 by decide)
      have m2 := Nat.mod_lt (v / 6) (show 6 > 0 by decide)
      have h440 := hI.1.2.2.2.2.2.2.2
      have e1 : io (yh (vy w) / 8) + 1 = io (yh (vy w) / 8 + 1) := io_add _ _
      have e2 : io v - io v / 6 * 6 = io (v % 6) := md9 6 (by omega) (by omega)
      have e3 : io v / 6 - io v / 6 / 6 * 6 = io (v / 6 % 6) := by
        have h1 : io v / 6 = io (v / 6) := io_div (by omega) (b := 6) (by decide)
        rw [h1]; exact md9 6 (by omega) (by omega)
      rw [e3, e2, e1, io_add, io_add]
      refine RPx.calP (L_isSwapped (F := F) (Z := Z) H hI (show yh (vy w) / 8 < yh (vy w) / 8 + 1 + v % 6 by omega) (by omega) (show yh (vy w) / 8 < yh (vy w) / 8 + 1 + v / 6 % 6 by omega) (by omega) (by omega)) (by omega) (fun s3 w3 A3 c3 p3 d3 d4 => ?_)
      dsimp only
      exact hB s3 w3 A3 c3 p3.up (by omega)
  · exact M_off hB hn hZ hF hv H hI hc hp (by rw [g20]; exact h20)
/-- a silence -/
theorem M705 (hB : BOK L xs F Z n X v K) (hn : n < 100) (hZ : 9000 ≤ Z) (hF : 5000 ≤ F) (hv : v < 100000000) (H : CL s w A) (hI : IVx n w A) (hc : ct s ≤ Cn n) {p : Nat} (hp : p < vn w) {how : Nat} (hh : how < 32) : RPx (f_L_law_b705 L xs F Z K s 1 (io n) (io X) (io v) (io how) (io (yh (vy w) / 8)) (io p)) 1 s 9000 TTx := by
  have hCn := Cn_le (n := n) (by omega)
  have h863 := M863 (L := L) (xs := xs) (K := K) hB hn hZ hF hv H hI hc hp hh
  obtain ⟨⟨lp, lg, lf, lr, la, ln, lm, ly⟩, hd, h63⟩ := hI
  have hR := H.1.r.2
  have g16 : (io how = (16 : Int32)) = (how = 16) := io_eq (by omega) (by decide)
  rw [f_L_law_b705]
  by_cases h16 : how = 16
  · rw [if_pos (by rw [g16]; exact h16), show (ix 4 1 : Option Nat) = some 1 from rfl, Option.bind_some, H.2 39 (by decide), lp.2.1]
    simp only [le0 (show vR w < 2147483648 by omega)]
    by_cases hz : vR w ≤ 0
    · rw [if_pos hz]; exact h863
    · rw [if_neg hz, Option.bind_some, if_neg (by rw [lp.2.1]; exact nz0 (by omega) (show vR w ≠ 0 by omega)), lp.2.1, vmod hv hR]
      have hq := Nat.mod_lt v (show vR w > 0 by omega)
      obtain ⟨q, hqe⟩ : ∃ q, q = v % vR w := ⟨_, rfl⟩
      rw [← hqe] at hq ⊢
      have m12 := Nat.mod_lt (v / 4) (show 12 > 0 by decide)
      have m9 := Nat.mod_lt (v / 48) (show 9 > 0 by decide)
      obtain ⟨a, ha⟩ : ∃ a, a = yh (vy w) + 1 + v / 4 % 12 := ⟨_, rfl⟩
      obtain ⟨b, hb⟩ : ∃ b, b = a + v / 48 % 9 := ⟨_, rfl⟩
      have e1 : io (yh (vy w)) + 1 + (io v / 4 - io v / 4 / 12 * 12) = io a := by
        have h1 : io v / 4 = io (v / 4) := io_div (by omega) (b := 4) (by decide)
        have h2 : io (v / 4) - io (v / 4) / 12 * 12 = io (v / 4 % 12) := md9 12 (by omega) (by omega)
        have h3 : io (yh (vy w)) + 1 = io (yh (vy w) + 1) := io_add _ _
        rw [h1, h2, h3, ha]; exact io_add _ _
      have e2 : io a + (io v / 48 - io v / 48 / 9 * 9) = io b := by
        have h1 : io v / 48 = io (v / 48) := io_div (by omega) (b := 48) (by decide)
        have h2 : io (v / 48) - io (v / 48) / 9 * 9 = io (v / 48 % 9) := md9 9 (by omega) (by omega)
        rw [h1, h2, hb]; exact io_add _ _
      have e12 : (12 : Int32) * io q = io (12 * q) := io_mul 12 q
      have e4 : io (12 * q) + 4 = io (12 * q + 4) := io_add _ _
      have e5 : io (12 * q) + 5 = io (12 * q + 5) := io_add _ _
      have hr := lr.1 q hq
      have hg9 := H.1.ru.2.1.2.1 q hq
      have hlen := hg9.2.2.2.2.2.2.2.2.1
      obtain ⟨ln9, hln⟩ : ∃ k, k = (us (yu (vy w) q)).length := ⟨_, rfl⟩
      rw [← hln] at hlen
      have hr4 := hr.2.2.2.2.1
      rw [← hln] at hr4
      refine RPx.pl (W_now (F := F) H.1) H (fun s1 c1 d1 => ?_)
      dsimp only
      rw [e1, e2, lt_def, e12, e4, ix_io (show 12 * q + 4 < 48 by omega) (by decide), Option.bind_some, c1.2 42 (by decide), hr4]
      by_cases h5 : 5 ≤ ln9
      · rw [if_pos (show (5 : Int32) ≤ io ln9 from by
          show io 5 ≤ io ln9
          rw [io_le (by decide) (by omega)]; exact h5), f_L_law_b774, if_pos rfl, f_L_law_b815, show (ix 4 1 : Option Nat) = some 1 from rfl, Option.bind_some, c1.2 39 (by decide), lp.2.1, if_neg (nz0 (by omega) (show vR w ≠ 0 by omega)), vmod hv hR, ← hqe]
        refine RPx.cal (A_silence_x1 (F := F) (Z := Z) hF c1 (by omega) (a := io a) (b := io b) hq (fun c => by
          rw [io_lt (by omega) (by omega), io_lt (by omega) (by omega)] at c; omega) (fun c => by
          rw [io_lt (by omega) (by omega), io_lt (by omega) (by omega)] at c; omega) (by omega)) (by omega) (fun s2 c2 d2 d3 => ?_)
        dsimp only
        rw [if_pos rfl, if_pos rfl]
        exact hB s2 w A c2 ⟨⟨lp, lg, lf, lr, la, ln, lm, ly⟩, Nat.le_succ_of_le hd, h63⟩ (by omega)
      · have e6 : io (12 * q + 5) + io ln9 = io (12 * q + 5 + ln9) := io_add _ _
        have e7 : io a ||| (io b <<< ((10 : Int32) &&& 31)) = io (a + 1024 * b) := by
          have h1 : ((10 : Int32) &&& 31) = io 10 := by decide
          rw [h1, io_shl (by omega), io_or]
          congr 1
          rw [Nat.or_comm, ← Nat.shiftLeft_add_eq_or_of_lt (show a < 2 ^ 10 by omega), Nat.shiftLeft_eq]
          omega
        rw [if_neg (show ¬ (5 : Int32) ≤ io ln9 from by
          show ¬ io 5 ≤ io ln9
          rw [io_le (by decide) (by omega)]; exact h5), f_L_law_b774, if_neg (show ¬ (1 : Int32) = 0 by decide), e4, ix_io (show 12 * q + 4 < 48 by omega) (by decide), Option.bind_some, c1.2 42 (by decide), hr4, e5, e6, ix_io (show 12 * q + 5 + ln9 < 48 by omega) (by decide), Option.bind_some, lt_def, Option.bind_some, Option.bind_some, lt_def, e7]
        have w1 := c1.wA (k := 42) (by decide) (12 * q + 5 + ln9) (io (a + 1024 * b))
        have e8 : gA (sA s1 42 (12 * q + 5 + ln9) (io (a + 1024 * b))) 42 (12 * q + 4) = io ln9 := by
          rw [w1.2 42 (by decide), upA_self]
          unfold ups
          rw [if_neg (by omega)]; exact hr4
        have e9 : io ln9 + 1 = io (ln9 + 1) := io_add _ _
        rw [e8, e9]
        have w2 := w1.wA (k := 42) (by decide) (12 * q + 4) (io (ln9 + 1))
        obtain ⟨s2, hs2⟩ : ∃ s2, s2 = sA (sA s1 42 (12 * q + 5 + ln9) (io (a + 1024 * b))) 42 (12 * q + 4) (io (ln9 + 1)) := ⟨_, rfl⟩
        obtain ⟨B, hBe⟩ : ∃ B, B = upA (upA A 42 (ups (A 42) (12 * q + 5 + ln9) (io (a + 1024 * b)))) 42 (ups (upA A 42 (ups (A 42) (12 * q + 5 + ln9) (io (a + 1024 * b))) 42) (12 * q + 4) (io (ln9 + 1))) := ⟨_, rfl⟩
        rw [← hs2, ← hBe] at w2
        rw [← hs2]
        have hct : ct s2 = ct s1 := by rw [hs2]; rfl
        refine RPx.mv (s := s2) ?_ hct.symm
        have b42 : ∀ k, B 42 k = if k = 12 * q + 4 then io (ln9 + 1) else if k = 12 * q + 5 + ln9 then io (a + 1024 * b) else A 42 k := fun k => by
          rw [hBe, upA_self, upA_self]; rfl
        have bo : ∀ k, k ≠ 42 → B k = A k := fun k hk => by rw [hBe, upA_ne _ hk, upA_ne _ hk]
        rw [f_L_law_b815, show (ix 4 1 : Option Nat) = some 1 from rfl, Option.bind_some, w2.2 39 (by decide), bo 39 (by decide), lp.2.1, if_neg (nz0 (by omega) (show vR w ≠ 0 by omega)), vmod hv hR, ← hqe]
        refine RPx.cal (A_silence (F := F) (Z := Z) hF w2 hq (show yh (vy w) + 1 ≤ a by omega) (show a ≤ b by omega) (by omega) (by omega)) (by omega) (fun s3 c3 d2 d3 => ?_)
        dsimp only
        rw [if_neg (show ¬ (1 : Int32) = 0 by decide), e4, ix_io (show 12 * q + 4 < 48 by omega) (by decide), Option.bind_some, c3.2 42 (by decide), b42, if_pos rfl, ← hln, if_pos rfl]
        refine hB s3 _ B c3 ⟨⟨?_, ?_, ?_, ⟨fun r hr9 => ?_, fun r hr9 hr5 => ?_⟩, ?_, GN.rule ln rfl rfl rfl, lm, ly⟩, Nat.le_succ_of_le hd, h63⟩ (by omega)
        · unfold APx; rw [bo 39 (by decide)]; exact lp
        · unfold GH; rw [bo 40 (by decide)]; exact lg
        · unfold AFx; rw [bo 41 (by decide)]; exact lf
        · show rlow (ups (yu (vy w)) q (uSil (yu (vy w) q) a b) r) (B 42) (12 * r)
          unfold ups
          by_cases hrq : r = q
          · rw [if_pos hrq, hrq]
            obtain ⟨k1, k2, k3, k4, k5, k6⟩ := hr
            have hus : us (uSil (yu (vy w) q) a b) = us (yu (vy w) q) ++ [(a, b)] := rfl
            have hul : (us (uSil (yu (vy w) q) a b)).length = ln9 + 1 := by rw [hus, List.length_append, ← hln]; rfl
            refine ⟨?_, ?_, ?_, ?_, ?_, fun i hi => ?_⟩
            · rw [b42, if_neg (by omega), if_neg (by omega)]; exact k1
            · rw [b42, if_neg (by omega), if_neg (by omega)]; exact k2
            · rw [b42, if_neg (by omega), if_neg (by omega)]; exact k3
            · rw [b42, if_neg (by omega), if_neg (by omega)]; exact k4
            · rw [b42, if_pos rfl, hul]
            · rw [hul] at hi
              rw [b42, if_neg (by omega)]
              by_cases hil : i = ln9
              · rw [if_pos (by omega)]
                have : (us (uSil (yu (vy w) q) a b))[i] = (a, b) := by
                  simp only [hus]
                  rw [List.getElem_append_right (by omega)]
                  simp
                rw [this]
              · rw [if_neg (by omega)]
                have hi2 : i < (us (yu (vy w) q)).length := by omega
                have : (us (uSil (yu (vy w) q) a b))[i] = (us (yu (vy w) q))[i] := by
                  simp only [hus]
                  rw [List.getElem_append_left hi2]
                rw [this]; exact k6 i hi2
          · rw [if_neg hrq]
            have hlr := (H.1.ru.2.1.2.1 r hr9).2.2.2.2.2.2.2.2.1
            exact arr_ru (lr.1 r hr9) (fun i hi => by rw [b42, if_neg (by omega), if_neg (by omega)]) hlr
        · have hr8 : vR w ≤ r := hr9
          rw [b42, b42, if_neg (by omega), if_neg (by omega), if_neg (by omega), if_neg (by omega)]
          exact lr.2 r hr8 hr5
        · unfold AAx; rw [bo 44 (by decide)]; exact la
  · rw [if_neg (by rw [g16]; exact h16)]; exact h863
end LD9
