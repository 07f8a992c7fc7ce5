/-! the loop of the law, and the law -/
section LL9
variable {L : Nat} {xs : Nat → Int32} {F Z : Nat} {s : St} {w : WD} {A : LA} {n X v : Nat} {K : St → Int32 → Int32 → Option (Int32 × St)}
theorem and_pos (a : Int32) : ∃ X, X < 2147483648 ∧ a &&& 2147483647 = io X := by
  have e : a = io a.toBitVec.toNat := by
    unfold io
    rw [← Int32.toBitVec_inj, Int32.toBitVec_ofNat', BitVec.ofNat_toNat, BitVec.setWidth_eq]
  have h : a &&& io 2147483647 = io (a.toBitVec.toNat &&& 2147483647) := by
    rw [← io_and, ← e]
  refine ⟨a.toBitVec.toNat &&& 2147483647, ?_, h⟩
  have := Nat.and_two_pow_sub_one_eq_mod a.toBitVec.toNat 31
  rw [show (2 ^ 31 - 1 : Nat) = 2147483647 from rfl, show (2 ^ 31 : Nat) = 2147483648 from rfl] at this
  rw [this]
  exact Nat.mod_lt _ (by decide)
theorem L_dice (hL9 : L ≤ 260) (hn : n < 100) (H : CL s w A) : ∃ X, X < 2147483648 ∧ RB (f_L_dice L xs F Z s (io n)) (io X) s (ct s) w A := by
  rw [f_L_dice]
  by_cases h : Int32.ofNat L ≤ io n
  · rw [if_pos h]
    obtain ⟨X, hX, e⟩ := and_pos ((((608135817 : Int32) * (io n + 313)) + (((715 : Int32) * io n) * io n)) + 211)
    exact ⟨X, hX, by rw [e]; exact RB.ret H (Nat.le_refl _)⟩
  · rw [if_neg h]
    have h' : ¬ io L ≤ io n := h
    rw [io_le (by omega) (by omega)] at h'
    rw [ix_io (show n < L by omega) (by omega), Option.bind_some]
    obtain ⟨X, hX, e⟩ := and_pos (xs n)
    exact ⟨X, hX, by rw [e]; exact RB.ret H (Nat.le_refl _)⟩
theorem M208 (hB : BOK L xs F Z n X v K) (hn : n < 100) (hZ : 9000 ≤ Z) (hF : 5000 ≤ F) (hL9 : L ≤ 260) (hv : v < 100000000) (H : CL s w A) (hI : IVx n w A) (hc : ct s ≤ Cn n) {p : Nat} (hp : p < vn w) {how : Nat} (hh : how < 32) : RPx (f_L_law_b208 L xs F Z K s 1 (io n) (io X) (io v) (io how) (io (yh (vy w) / 8)) (io p)) 1 s 9000 TTx := by
  have h345 := M345 (L := L) (xs := xs) (K := K) hB hn hZ hF hL9 hv H hI hc hp hh
  have lp := hI.1.1
  have lm := hI.1.2.2.2.2.2.2.1
  have ly := hI.1.2.2.2.2.2.2.2
  have g8 : ((8 : Int32) ≤ io how) = (8 ≤ how) := io_le (by decide) (by omega)
  rw [f_L_law_b208]
  by_cases h8 : 8 ≤ how
  · rw [if_pos (by rw [g8]; exact h8)]; exact h345
  · rw [if_neg (by rw [g8]; exact h8), show (ix 4 2 : Option Nat) = some 2 from rfl, Option.bind_some, H.2 39 (by decide), lp.2.2.1]
    by_cases h60 : 60 ≤ vm w
    · rw [if_pos (show (60 : Int32) ≤ io (vm w) from by
        show io 60 ≤ io (vm w)
        rw [io_le (by decide) (by omega)]; exact h60)]
      exact h345
    · rw [if_neg (show ¬ (60 : Int32) ≤ io (vm w) from by
        show ¬ io 60 ≤ io (vm w)
        rw [io_le (by decide) (by omega)]; exact h60)]
      have e7 : io v / 7 = io (v / 7) := io_div (by omega) (b := 7) (by decide)
      refine RPx.pl (W_now (F := F) H.1) H (fun s1 c1 d1 => ?_)
      dsimp only
      refine RPx.pl (W_now (F := F) c1.1) c1 (fun s2 c2 d2 => ?_)
      dsimp only
      rw [e7]
      by_cases h12 : 12 ≤ yh (vy w)
      · rw [if_pos (show (12 : Int32) ≤ io (yh (vy w)) from by
          show io 12 ≤ io (yh (vy w))
          rw [io_le (by decide) (by omega)]; exact h12)]
        exact M252 (t2 := 12) hB hn hZ hF hv c2 hI (by omega) (by omega) (by decide) (by omega)
      · rw [if_neg (show ¬ (12 : Int32) ≤ io (yh (vy w)) from by
          show ¬ io 12 ≤ io (yh (vy w))
          rw [io_le (by decide) (by omega)]; exact h12)]
        refine RPx.pl (W_now (F := F) c2.1) c2 (fun s3 c3 d3 => ?_)
        dsimp only
        have e1 : io (yh (vy w)) + 1 = io (yh (vy w) + 1) := io_add _ _
        rw [e1]
        exact M252 (t2 := yh (vy w) + 1) hB hn hZ hF hv c3 hI (by omega) (by omega) (by omega) (Nat.le_refl _)
theorem M153 (hB : BOK L xs F Z n X v K) (hn : n < 100) (hZ : 9000 ≤ Z) (hF : 5000 ≤ F) (hL9 : L ≤ 260) (hv : v < 100000000) (H : CL s w A) (hI : IVx n w A) (hc : ct s ≤ Cn n) {p : Nat} (hp : vn w ≠ 0 → p < vn w) {how : Nat} (hh : how < 32) : RPx (f_L_law_b153 L xs F Z K s 1 (io n) (io X) (io v) (io how) (io (yh (vy w) / 8)) (io p)) 1 s 9000 TTx := by
  have lp := hI.1.1
  have hn8 := H.1.n.2
  have g0 : (io how = (0 : Int32)) = (how = 0) := io_eq (by omega) (by decide)
  rw [f_L_law_b153, show (ix 4 0 : Option Nat) = some 0 from rfl, Option.bind_some, H.2 39 (by decide), lp.1]
  by_cases h2 : vn w < 2
  · rw [if_pos (show io (vn w) < (2 : Int32) from by
      show io (vn w) < io 2
      rw [io_lt (by omega) (by decide)]; exact h2)]
    exact M174 hB hn hZ hF H hI hc (by omega)
  · rw [if_neg (show ¬ io (vn w) < (2 : Int32) from by
      show ¬ io (vn w) < io 2
      rw [io_lt (by omega) (by decide)]; exact h2)]
    have h208 := M208 (L := L) (xs := xs) (K := K) hB hn hZ hF hL9 hv H hI hc (hp (by omega)) hh
    by_cases h0 : how = 0
    · rw [if_pos (by rw [g0]; exact h0), Option.bind_some, lp.1]
      by_cases h5 : 5 ≤ vn w
      · rw [if_pos (show (5 : Int32) ≤ io (vn w) from by
          show io 5 ≤ io (vn w)
          rw [io_le (by decide) (by omega)]; exact h5)]
        exact h208
      · rw [if_neg (show ¬ (5 : Int32) ≤ io (vn w) from by
          show ¬ io 5 ≤ io (vn w)
          rw [io_le (by decide) (by omega)]; exact h5)]
        exact M174 hB hn hZ hF H hI hc (by omega)
    · rw [if_neg (by rw [g0]; exact h0)]; exact h208
theorem M94 (hZ : 9000 ≤ Z) (hF : 5000 ≤ F) (hL9 : L ≤ 260) : ∀ (j N k : Nat) (s : St) (w : WD) (A : LA), k + j = 100 → j < N → CL s w A → IVx k w A → ct s ≤ Cn k → RPx (f_L_law_b94 L xs F Z N s 1 (io k)) 1 s 9000 TTx := by
  intro j
  induction j with
  | zero =>
    intro N k s w A hk hN H hI hc
    obtain ⟨N, rfl⟩ : ∃ N', N = N' + 1 := ⟨N - 1, by omega⟩
    have hk' : k = 100 := by omega
    subst hk'
    have hCn := Cn_le (n := 100) (by omega)
    rw [f_L_law_b94, if_pos (show (100 : Int32) ≤ io 100 by decide)]
    exact RPx.ret H trivial (by omega)
  | succ j ih =>
    intro N k s w A hk hN H hI hc
    obtain ⟨N, rfl⟩ : ∃ N', N = N' + 1 := ⟨N - 1, by omega⟩
    have hk9 : k < 100 := by omega
    have hCn := Cn_le (n := k) (by omega)
    have lp := hI.1.1
    have hn8 := H.1.n.2
    have hh := H.1.h.2
    obtain ⟨X, hX, hd⟩ := L_dice (L := L) (xs := xs) (F := F) (Z := Z) hL9 hk9 H
    obtain ⟨v, hve⟩ : ∃ v, v = X / 32 := ⟨_, rfl⟩
    have hv : v < 100000000 := by omega
    have e32 : io X / 32 = io v := by rw [hve]; exact io_div (by omega) (b := 32) (by decide)
    have e33 : io X - io v * 32 = io (X % 32) := by
      have : io X - io X / 32 * 32 = io (X % 32) := md9 32 (by omega) (by omega)
      rw [e32] at this; exact this
    have m32 := Nat.mod_lt X (show 32 > 0 by decide)
    have e8 : io (yh (vy w)) / 8 = io (yh (vy w) / 8) := io_div (by omega) (b := 8) (by decide)
    have hK : KOK k (f_L_law_b94 L xs F Z N) := fun s1 w1 A1 c1 i1 d1 => ih N (k + 1) s1 w1 A1 (by omega) (by omega) c1 i1 d1
    have hB : BOK L xs F Z k X v (f_L_law_b94 L xs F Z N) := fun s1 w1 A1 c1 i1 d1 => M1098 hF hZ hK hk9 hX hv c1 i1 d1
    rw [f_L_law_b94, if_neg (show ¬ (100 : Int32) ≤ io k from by
      show ¬ io 100 ≤ io k
      rw [io_le (by decide) (by omega)]; omega), if_neg (show ¬ (1 : Int32) = 0 by decide)]
    refine RPx.cal hd (by omega) (fun s1 c1 d1 d2 => ?_)
    dsimp only
    refine RPx.pl (W_now (F := F) c1.1) c1 (fun s2 c2 d3 => ?_)
    dsimp only
    rw [e32, e33, e8, show (ix 4 0 : Option Nat) = some 0 from rfl, Option.bind_some, c2.2 39 (by decide), lp.1]
    by_cases hz : vn w = 0
    · rw [if_pos (show io (vn w) = 0 by rw [hz]; rfl)]
      exact M153 (p := 0) hB hk9 hZ hF hL9 hv c2 hI (by omega) (fun c => absurd hz c) m32
    · have e4 : io v - io v / io (vn w) * io (vn w) = io (v % vn w) := md9 (vn w) (by omega) (by omega)
      rw [if_neg (nz0 (by omega) hz), Option.bind_some, lp.1, if_neg (nz0 (by omega) hz), e4]
      exact M153 (p := v % vn w) hB hk9 hZ hF hL9 hv c2 hI (by omega) (fun _ => Nat.mod_lt _ (by omega)) m32
/-! the beginning -/
def w00 : WD := ((0, (fun _ => -io 1, fun _ => 0, fun _ => -io 1, fun _ => 0, fun _ => 0), 0, (fun _ => 0, fun _ => 0, fun _ => 0, fun _ => 0, fun _ => 0), 0, 0, fun _ => (0, [], 0, 0, 0, 0, 0, [], 0, 0)), fun _ => (0, 0, 0, 0, 0, 0), 0, 0, 0, fun _ => 0, 0)
theorem CV0 : CV σi w00 := by
  refine ⟨⟨rfl, ⟨by decide, rfl⟩, fun j _ => ⟨rfl, rfl, rfl⟩, ⟨rfl, fun i hi => absurd hi (Nat.not_lt_zero i)⟩, ⟨rfl, rfl, fun i _ _ => rfl, fun i hi => absurd hi (Nat.not_lt_zero i)⟩, ⟨rfl, fun i hi => absurd hi (Nat.not_lt_zero i)⟩, ⟨rfl, fun i hi => absurd hi (Nat.not_lt_zero i), fun x _ => rfl⟩, ⟨[], by decide, rfl, fun i hi => absurd hi (Nat.not_lt_zero i), (fun v hv => by cases hv), fun x _ => rfl⟩⟩, ⟨by decide, fun j hj => ⟨Or.inl rfl, (by decide : (0 : Nat) < 256), Or.inl rfl, fun _ => rfl⟩, ⟨by decide, fun i hi => absurd hi (Nat.not_lt_zero i)⟩, ⟨by decide, by decide, Nat.le_refl _, fun i hi => absurd hi (Nat.not_lt_zero i)⟩, Or.inl rfl, ⟨by decide, fun i hi => absurd hi (Nat.not_lt_zero i), fun i j _ hi => absurd hi (Nat.not_lt_zero j)⟩, fun i hi => absurd hi (Nat.not_lt_zero i), rfl, ⟨by decide, fun i hi => absurd hi (Nat.not_lt_zero i), fun i j _ hi => absurd hi (Nat.not_lt_zero j)⟩⟩, by decide, ⟨by decide, fun i hi => absurd hi (Nat.not_lt_zero i), fun i _ => rfl⟩, fun i hi => absurd hi (Nat.not_lt_zero i), rfl, ⟨[], by decide, rfl, fun i hi => absurd hi (Nat.not_lt_zero i), (fun v hv => by cases hv), fun x _ => rfl⟩⟩
theorem CL0 : CL σi w00 (gA σi) := ⟨CV0, fun _ _ => rfl⟩
theorem LV0 : LVx (gA σi) w00 := by
  refine ⟨⟨rfl, rfl, rfl, rfl⟩, ⟨fun _ => 0, fun i hi => absurd hi (Nat.not_lt_zero i), fun P => rfl⟩, fun j _ => rfl, ⟨fun r hr => absurd hr (Nat.not_lt_zero r), fun r _ _ => ⟨rfl, rfl⟩⟩, fun i _ => ?_, ⟨rfl, fun j _ => (by decide : (0 : Nat) < 2 ^ 0), fun j q _ hq e => ?_, fun i hi => absurd hi (Nat.not_lt_zero i), fun i j _ hj => absurd hj (Nat.not_lt_zero j), fun i hi => absurd hi (Nat.not_lt_zero i), fun r hr => absurd hr (Nat.not_lt_zero r), fun i hi => absurd hi (Nat.not_lt_zero i)⟩, by decide, by decide⟩
  · show gA σi 44 i = io (if i < 0 then 0 else 0)
    rw [if_neg (Nat.not_lt_zero i)]; rfl
  · have e' : (-io 1 : Int32) = io q := e
    rw [io_neg1' (by omega)] at e'; exact e'.elim
theorem law_ok (hL9 : L ≤ 260) : ∃ s', f_L_law L xs 6000 9000 σi = some (1, s') := by
  have hF : 5000 ≤ 6000 := by decide
  have hZ : 9000 ≤ 9000 := Nat.le_refl _
  have c0 : ct σi = 0 := rfl
  have hI0 : IVx 0 w00 (gA σi) := ⟨LV0, Nat.le_refl _, by decide⟩
  have h : RPx (f_L_law L xs 6000 9000 σi) 1 σi 9000 TTx := by
    rw [f_L_law]
    refine RPx.cal (L_isRefused (F := 6000) (Z := 9000) (x := 0) hF CL0 LV0 (by decide) (by decide) (by omega)) (by omega) (fun s1 c1 d1 d2 => ?_)
    dsimp only
    rw [if_neg (show ¬ (1 : Int32) = 0 by decide)]
    refine RPx.cal (L_isRefused (F := 6000) (Z := 9000) (x := 1) hF c1 LV0 (by decide) (by decide) (by omega)) (by omega) (fun s2 c2 d3 d4 => ?_)
    dsimp only
    rw [if_neg (show ¬ (1 : Int32) = 0 by decide)]
    refine RPx.pl (W_next (F := 6000) hF c2.1 (show yh (vy w00) / 8 + 1 < 126 by decide)) c2 (fun s3 c3 d5 => ?_)
    dsimp only
    rw [if_pos (show hold2 (yg (vy w00)) (vn w00) (yd (vy w00)) (yh (vy w00) / 8 + 1) = -1 from rfl)]
    refine RPx.calP (T_isText (F := 6000) (Z := 9000) (L := L) (xs := xs) (at9 := 300) hL9 hF (by decide) (by decide) (texts_a 0 (by decide)) c3 (by omega)) (by omega) (fun s4 w4 A4 c4 p4 d6 d7 => ?_)
    dsimp only
    rw [if_neg (show ¬ (1 : Int32) = 0 by decide)]
    have hLV := LV0.tx p4
    obtain ⟨⟨l, rfl⟩, -⟩ := p4
    exact M94 hZ hF hL9 100 6000 0 s4 _ A4 (by omega) (by omega) c4 ⟨hLV, Nat.le_refl _, show 0 ≤ 63 by decide⟩ (by unfold Cn; omega)
  obtain ⟨s', w', A', e, -⟩ := h
  exact ⟨s', e⟩
end LL9
