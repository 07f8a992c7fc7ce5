/-! the law's own loop, from behind each deed on -/
def Cn (n : Nat) : Nat := 240 + 60 * n + 93 * ((n + 19) / 20)
def TTx : WD → LA → Prop := fun _ _ => True
def KOK (n : Nat) (K : St → Int32 → Int32 → Option (Int32 × St)) : Prop := ∀ s1 w1 A1, CL s1 w1 A1 → IVx (n + 1) w1 A1 → ct s1 ≤ Cn (n + 1) → RPx (K s1 1 (io (n + 1))) 1 s1 9000 TTx
theorem IVx.up {n : Nat} {w : WD} {A : LA} (h : IVx n w A) : IVx (n + 1) w A := ⟨h.1, Nat.le_succ_of_le h.2.1, h.2.2⟩
theorem pos0 {a : Nat} (ha : a < 2147483648) : ((0 : Int32) < io a) = (0 < a) := io_lt (by decide) ha
theorem le0 {a : Nat} (ha : a < 2147483648) : (io a ≤ (0 : Int32)) = (a ≤ 0) := io_le ha (by decide)
theorem Cn_le {n : Nat} (h : n ≤ 100) : Cn n ≤ 6705 := by unfold Cn; omega
section LW9
variable {L : Nat} {xs : Nat → Int32} {F Z : Nat} {s : St} {w : WD} {A : LA} {n X v : Nat} {K : St → Int32 → Int32 → Option (Int32 × St)}
theorem M1186 (hF : 5000 ≤ F) (hZ : 9000 ≤ Z) (hK : KOK n K) (hn : n < 100) (hX : X < 2147483648) (H : CL s w A) (hI : IVx (n + 1) w A) (hc : ct s ≤ Cn n + 60) : RPx (f_L_law_b1186 L xs F Z K s (io n) (io X)) 1 s 9000 TTx := by
  have e1 : io n - io n / 20 * 20 = io (n % 20) := md9 20 (by omega) (by omega)
  have e2 : io n + 1 = io (n + 1) := io_add _ _
  have e3 : io X / 3 = io (X / 3) := io_div (by omega) (b := 3) (by decide)
  have hCn := Cn_le (n := n) (by omega)
  rw [f_L_law_b1186, e1, e2, e3]
  simp only [pos0 (show n % 20 < 2147483648 by omega)]
  by_cases h : 0 < n % 20
  · rw [if_pos h]
    exact hK s w A H hI (by unfold Cn at hc ⊢; omega)
  · rw [if_neg h]
    refine RPx.cal (L_isRefused (F := F) (Z := Z) hF H hI.1 hI.2.2 (show X / 3 < 1000000000 by omega) (by omega)) (by omega) (fun s1 c1 d1 d2 => ?_)
    dsimp only
    rw [if_neg (show ¬ (1 : Int32) = 0 by decide)]
    exact hK s1 w A c1 hI (by unfold Cn at hc ⊢; omega)
theorem vmod {R : Nat} (hv : v < 100000000) (hR : R ≤ 4) : io v - io v / io R * io R = io (v % R) := md9 R (by omega) (by omega)
theorem M1144 (hF : 5000 ≤ F) (hZ : 9000 ≤ Z) (hK : KOK n K) (hn : n < 100) (hX : X < 2147483648) (hv : v < 100000000) (H : CL s w A) (hI : IVx (n + 1) w A) (hc : ct s ≤ Cn n + 60) : RPx (f_L_law_b1144 L xs F Z K s (io n) (io X) (io v)) 1 s 9000 TTx := by
  have e1 : io n - io n / 50 * 50 = io (n % 50) := md9 50 (by omega) (by omega)
  have hCn := Cn_le (n := n) (by omega)
  have hR := H.1.r.2
  have lp := hI.1.1
  rw [f_L_law_b1144, e1]
  by_cases h : n % 50 < 49
  · rw [if_pos (show io (n % 50) < 49 from by
      show io (n % 50) < io 49
      rw [io_lt (by omega) (by decide)]; exact h)]
    exact M1186 hF hZ hK hn hX H hI hc
  · rw [if_neg (show ¬ io (n % 50) < 49 from by
      show ¬ io (n % 50) < io 49
      rw [io_lt (by omega) (by decide)]; exact h), show (ix 4 1 : Option Nat) = some 1 from rfl, Option.bind_some, H.2 39 (by decide), lp.2.1]
    by_cases hz : vR w = 0
    · rw [if_pos (show io (vR w) = 0 by rw [hz]; rfl)]
      exact M1186 hF hZ hK hn hX H hI hc
    · have hmod := Nat.mod_lt v (show vR w > 0 by omega)
      rw [if_neg (nz0 (by omega) hz), Option.bind_some, if_neg (by rw [lp.2.1]; exact nz0 (by omega) hz), lp.2.1, vmod hv hR]
      refine RPx.cal (O_risesAnew (F := F) (Z := Z) hF H hmod) (by omega) (fun s1 c1 d1 d2 => ?_)
      dsimp only
      rw [Option.bind_some, c1.2 39 (by decide), lp.2.1, if_neg (nz0 (by omega) hz), vmod hv hR]
      refine RPx.tk (C_rises (F := F) (Z := Z) c1 hmod) (fun s2 c2 d3 d4 => ?_)
      dsimp only
      rw [if_pos rfl]
      exact M1186 hF hZ hK hn hX c2 hI (by omega)
theorem M1098 (hF : 5000 ≤ F) (hZ : 9000 ≤ Z) (hK : KOK n K) (hn : n < 100) (hX : X < 2147483648) (hv : v < 100000000) (H : CL s w A) (hI : IVx (n + 1) w A) (hc : ct s ≤ Cn n + 60) : RPx (f_L_law_b1098 L xs F Z K s 1 (io n) (io X) (io v)) 1 s 9000 TTx := by
  have e1 : io n - io n / 4 * 4 = io (n % 4) := md9 4 (by omega) (by omega)
  have hCn := Cn_le (n := n) (by omega)
  have hR := H.1.r.2
  have lp := hI.1.1
  rw [f_L_law_b1098, if_neg (show ¬ (1 : Int32) = 0 by decide)]
  refine RPx.cal (L_areShifts (F := F) (Z := Z) hF H hI.1 hv) (by omega) (fun s1 c1 d1 d2 => ?_)
  dsimp only
  rw [if_neg (show ¬ (1 : Int32) = 0 by decide), e1]
  simp only [pos0 (show n % 4 < 2147483648 by omega)]
  by_cases h : 0 < n % 4
  · rw [if_pos h]
    exact M1144 hF hZ hK hn hX hv c1 hI (by omega)
  · rw [if_neg h, show (ix 4 1 : Option Nat) = some 1 from rfl, Option.bind_some, c1.2 39 (by decide), lp.2.1]
    by_cases hz : vR w = 0
    · rw [if_pos (show io (vR w) = 0 by rw [hz]; rfl)]
      exact M1144 hF hZ hK hn hX hv c1 hI (by omega)
    · have hmod := Nat.mod_lt v (show vR w > 0 by omega)
      rw [if_neg (nz0 (by omega) hz), Option.bind_some, lp.2.1, if_neg (nz0 (by omega) hz), vmod hv hR]
      refine RPx.cal (L_areAlarms (F := F) (Z := Z) c1 hF hI hmod) (by omega) (fun s2 c2 d3 d4 => ?_)
      dsimp only
      rw [if_neg (show ¬ (1 : Int32) = 0 by decide)]
      exact M1144 hF hZ hK hn hX hv c2 hI (by omega)
/-- what a deed leaves, and what comes behind it -/
def BOK (L : Nat) (xs : Nat → Int32) (F Z n X v : Nat) (K : St → Int32 → Int32 → Option (Int32 × St)) : Prop := ∀ s w A, CL s w A → IVx (n + 1) w A → ct s ≤ Cn n + 60 → RPx (f_L_law_b1098 L xs F Z K s 1 (io n) (io X) (io v)) 1 s 9000 TTx
theorem M174 (hB : BOK L xs F Z n X v K) (hn : n < 100) (hZ : 9000 ≤ Z) (hF : 5000 ≤ F) (H : CL s w A) (hI : IVx n w A) (hc : ct s ≤ Cn n) (h8 : vn w < 8) : RPx (f_L_law_b174 L xs F Z K s (io n) (io X) (io v)) 1 s 9000 TTx := by
  have hCn := Cn_le (n := n) (by omega)
  obtain ⟨⟨lp, lg, lf, lr, la, ln, lm, ly⟩, hd, h63⟩ := hI
  have e0 : gA s 39 0 = io (vn w) := by rw [H.2 39 (by decide)]; exact lp.1
  have e1 : io (vn w) + 1 = io (vn w + 1) := io_add _ _
  rw [f_L_law_b174, show (ix 4 0 : Option Nat) = some 0 from rfl, Option.bind_some, Option.bind_some, lt_def, e0, e1]
  have c1 := H.wA (k := 39) (by decide) 0 (io (vn w + 1))
  obtain ⟨s1, hs1⟩ : ∃ s1, s1 = sA s 39 0 (io (vn w + 1)) := ⟨_, rfl⟩
  obtain ⟨B, hBe⟩ : ∃ B, B = upA A 39 (ups (A 39) 0 (io (vn w + 1))) := ⟨_, rfl⟩
  rw [← hs1, ← hBe] at c1
  rw [← hs1]
  have hct : ct s1 = ct s := by rw [hs1]; rfl
  refine RPx.mv (s := s1) ?_ hct.symm
  have b0 : B 39 0 = io (vn w + 1) := by rw [hBe, upA_self]; rfl
  have bi : ∀ k, k ≠ 0 → B 39 k = A 39 k := fun k hk => by rw [hBe, upA_self]; unfold ups; rw [if_neg hk]
  have bo : ∀ k, k ≠ 39 → B k = A k := fun k hk => by rw [hBe, upA_ne _ hk]
  refine RPx.cal (A_addPerson (F := F) (Z := Z) hF c1 h8) (by omega) (fun s2 c2 d1 d2 => ?_)
  dsimp only
  have e2 : io (vn w + 1) - 1 = io (vn w) := by
    have : io (vn w + 1) - io 1 = io (vn w + 1 - 1) := io_sub (by omega)
    exact this
  rw [Option.bind_some, c2.2 39 (by decide), b0, e2, if_pos rfl]
  refine hB s2 _ B c2 ⟨⟨⟨b0, (bi 1 (by decide)).trans lp.2.1, (bi 2 (by decide)).trans lp.2.2.1, (bi 3 (by decide)).trans lp.2.2.2⟩, ?_, ?_, ?_, ?_, ln.pp, lm, ly⟩, Nat.le_succ_of_le hd, h63⟩ (by omega)
  · unfold GH; rw [bo 40 (by decide)]; exact lg
  · unfold AFx; rw [bo 41 (by decide)]; exact lf
  · unfold ARx; rw [bo 42 (by decide)]; exact lr
  · unfold AAx; rw [bo 44 (by decide)]; exact la
/-- a log -/
theorem GH.log {gi : Nat → Nat} {m x : Nat} {M : Nat → LR} {r : LR} (hx : x ≤ m) (h : ∀ P : Nat → Bool, cnt (fun i => P (gi i)) m = cnt (fun k => P (rH (M k))) m) (P : Nat → Bool) : cnt (fun i => P (ups gi m (rH r) i)) (m + 1) = cnt (fun k => P (rH (lins M x r k))) (m + 1) := by
  have h1 : cnt (fun i => P (ups gi m (rH r) i)) (m + 1) = cnt (fun i => P (gi i)) m + if P (rH r) = true then 1 else 0 := by
    show cnt _ m + (if P (ups gi m (rH r) m) = true then 1 else 0) = _
    have e : ups gi m (rH r) m = rH r := if_pos rfl
    rw [e, cnt_ext (q := fun i => P (gi i)) (fun i hi => by rw [show ups gi m (rH r) i = gi i from if_neg (by omega)])]
  have h2 := cnt_rmv (p := fun k => P (rH (lins M x r k))) (f := fun k => k) m x hx
  have h3 : cnt (fun k => P (rH (lins M x r (if k < x then k else k + 1)))) m = cnt (fun k => P (rH (M k))) m := cnt_ext fun k _ => by
    unfold lins
    by_cases hk : k < x
    · rw [if_pos hk, if_pos hk]
    · rw [if_neg hk, if_neg (by omega), if_neg (by omega), Nat.add_sub_cancel]
  have h4 : rH (lins M x r x) = rH r := by unfold lins; rw [if_neg (by omega), if_pos rfl]
  rw [h1, h P, ← h3, ← h2, h4]
theorem M252 (hB : BOK L xs F Z n X v K) (hn : n < 100) (hZ : 9000 ≤ Z) (hF : 5000 ≤ F) (hv : v < 100000000) (H : CL s w A) (hI : IVx n w A) (hc : ct s ≤ Cn n) (hm : vm w < 60) {t2 : Nat} (ht : t2 ≠ 0) (ht2 : t2 ≤ yh (vy w) + 1) : RPx (f_L_law_b252 L xs F Z K s (io n) (io X) (io v) (io (yh (vy w))) (io (v / 7)) (io t2)) 1 s 9000 TTx := by
  have hCn := Cn_le (n := n) (by omega)
  have hI0 := hI
  obtain ⟨⟨lp, ⟨gi, lg1, lg2⟩, lf, lr, la, ln, lm, ly⟩, hd, h63⟩ := hI
  obtain ⟨r, hr⟩ : ∃ r, r = v / 7 % t2 := ⟨_, rfl⟩
  have hrl : r ≤ yh (vy w) := by have := Nat.mod_lt (v / 7) (show t2 > 0 by omega); omega
  obtain ⟨hr9, hhr⟩ : ∃ h, h = yh (vy w) - r := ⟨_, rfl⟩
  have e1 : io (v / 7) - io (v / 7) / io t2 * io t2 = io r := by rw [hr]; exact md9 t2 (by omega) (by omega)
  have e2 : io (yh (vy w)) - io r = io hr9 := by rw [hhr]; exact io_sub hrl
  have e3 : gA s 39 2 = io (vm w) := by rw [H.2 39 (by decide)]; exact lp.2.2.1
  have e4 : io (vm w) + 1 = io (vm w + 1) := io_add _ _
  rw [f_L_law_b252, if_neg (nz0 (by omega) ht), show (ix 4 2 : Option Nat) = some 2 from rfl, Option.bind_some, e3, ix_io (show vm w < 60 by omega) (by decide), Option.bind_some, lt_def, e1, e2, Option.bind_some, Option.bind_some, lt_def]
  have w1 := H.wA (k := 40) (by decide) (vm w) (io hr9)
  have e5 : gA (sA s 40 (vm w) (io hr9)) 39 2 = io (vm w) := by rw [w1.2 39 (by decide), upA_ne _ (by decide)]; exact lp.2.2.1
  rw [e5, e4]
  have w2 := w1.wA (k := 39) (by decide) 2 (io (vm w + 1))
  obtain ⟨s1, hs1⟩ : ∃ s1, s1 = sA (sA s 40 (vm w) (io hr9)) 39 2 (io (vm w + 1)) := ⟨_, rfl⟩
  obtain ⟨B, hBe⟩ : ∃ B, B = upA (upA A 40 (ups (A 40) (vm w) (io hr9))) 39 (ups (upA A 40 (ups (A 40) (vm w) (io hr9)) 39) 2 (io (vm w + 1))) := ⟨_, rfl⟩
  rw [← hs1, ← hBe] at w2
  rw [← hs1]
  have hct : ct s1 = ct s := by rw [hs1]; rfl
  refine RPx.mv (s := s1) ?_ hct.symm
  have b2 : B 39 2 = io (vm w + 1) := by rw [hBe, upA_self]; rfl
  have bi : ∀ k, k ≠ 2 → B 39 k = A 39 k := fun k hk => by rw [hBe, upA_self]; unfold ups; rw [if_neg hk, upA_ne _ (by decide)]
  have b40 : B 40 = ups (A 40) (vm w) (io hr9) := by rw [hBe, upA_ne _ (by decide), upA_self]
  have bo : ∀ k, k ≠ 39 → k ≠ 40 → B k = A k := fun k h1 h2 => by rw [hBe, upA_ne _ h1, upA_ne _ h2]
  have f1 : io v - io v / 8 * 8 = io (v % 8) := md9 8 (by omega) (by omega)
  have f2 : io v / 8 - io v / 8 / 6 * 6 = io (v / 8 % 6) := by
    have h1 : io v / 8 = io (v / 8) := io_div (by omega) (b := 8) (by decide)
    rw [h1]; exact md9 6 (by omega) (by omega)
  have f3 : io v / 48 = io (v / 48) := io_div (by omega) (b := 48) (by decide)
  have f4 : io (v / 48) - io (v / 48) / 2001 * 2001 = io (v / 48 % 2001) := md9 2001 (by omega) (by decide)
  have f5 : io (v / 48) - io (v / 48) / 21 * 21 = io (v / 48 % 21) := md9 21 (by omega) (by decide)
  have m1 := Nat.mod_lt v (show 8 > 0 by decide)
  have m2 := Nat.mod_lt (v / 8) (show 6 > 0 by decide)
  have m3 := Nat.mod_lt (v / 48) (show 2001 > 0 by decide)
  have m4 := Nat.mod_lt (v / 48) (show 21 > 0 by decide)
  have go : ∀ (a b : Nat), a ≤ 2000 → b ≤ 1000 → (a : Int) - b ≤ 1000 → RPx (f_L_law_b321 L xs F Z K s1 (io n) (io X) (io v) (io hr9) 2 (io (v % 8)) (io (v / 8 % 6)) (io a) (io b)) 1 s1 9000 TTx := fun a b ha hb hab => by
    have hi := sbI (a := a) (b := b) (by omega) (by omega)
    rw [f_L_law_b321]
    refine RPx.cal (A_log (F := F) (Z := Z) (v := io a - io b) (hr := hr9) hF w2 (show v % 8 ≤ 7 by omega) (show v / 8 % 6 ≤ 5 by omega) (by rw [hi]; omega) (by rw [hi]; exact hab) (by omega) (by omega)) (by omega) (fun s2 c2 d1 d2 => ?_)
    dsimp only
    have e6 : io (vm w + 1) - 1 = io (vm w) := by
      have : io (vm w + 1) - io 1 = io (vm w + 1 - 1) := io_sub (by omega)
      exact this
    rw [show (ix 4 2 : Option Nat) = some 2 from rfl, Option.bind_some, c2.2 39 (by decide), b2, e6, if_pos rfl]
    have hh9 := H.1.h.2
    refine hB s2 _ B c2 ⟨⟨⟨(bi 0 (by decide)).trans lp.1, (bi 1 (by decide)).trans lp.2.1, b2, (bi 3 (by decide)).trans lp.2.2.2⟩, ⟨ups gi (vm w) hr9, fun i hi9 => ?_, fun P => ?_⟩, ?_, ?_, ?_, ln, (by show vm w + 1 ≤ 60; omega), ly⟩, Nat.le_succ_of_le hd, h63⟩ (by omega)
    · have hi8 : i < vm w + 1 := hi9
      rw [b40]
      unfold ups
      by_cases hiv : i = vm w
      · rw [if_pos hiv, if_pos hiv]; exact ⟨rfl, by omega⟩
      · rw [if_neg hiv, if_neg hiv]; exact lg1 i (by omega)
    · exact GH.log (r := (v % 8, v / 8 % 6, io a - io b, hr9, yh (vy w), vm w)) (lplace_le _ _ _) lg2 P
    · unfold AFx; rw [bo 41 (by decide) (by decide)]; exact lf
    · unfold ARx; rw [bo 42 (by decide) (by decide)]; exact lr
    · unfold AAx; rw [bo 44 (by decide) (by decide)]; exact la
  rw [f1, f2, f3, f4, f5]
  by_cases h3 : io v - io v / 3 * 3 = 0
  · rw [if_pos h3, if_pos h3]; exact go _ 1000 (by omega) (by decide) (by omega)
  · rw [if_neg h3, if_neg h3]; exact go _ 10 (by omega) (by decide) (by omega)
end LW9
