/-! isRefused, from its end to its beginning -/
section RG9
variable {F Z : Nat} {s : St} {w : WD} {A : LA} {x e : Nat} {l4 l5 l6 l7 : Int32} {C : Nat}
theorem R570 (hF : 5000 ≤ F) (hL : LVx A w) (hC : RCx w x e l4 l5 l6 l7) (hZ : C + 74 ≤ Z) (H : CL s w A) (hc : ct s ≤ C) {t : Int32} (ht : t < io 0 ∨ io (yh (vy w)) < t) : RB (f_L_isRefused_b570 F Z s (io x) l4 l5 l6 l7 (io (yh (vy w) / 8)) (allV w) l4 t) 1 s (C + 74) w A := by
  have hC0 := hC
  obtain ⟨hx, he, hE, h4, hP, hR6, hA7⟩ := hC
  have h440 := hL.2.2.2.2.2.2.2
  have en1 : io (yh (vy w)) + 1 = io (yh (vy w) + 1) := io_add _ _
  have en2 : io (yh (vy w) + 1) + io e = io (yh (vy w) + 1 + e) := io_add _ _
  rw [f_L_isRefused_b570]
  refine RB.pl (W_now (F := F) H.1) H (fun s1 c1 d1 => ?_)
  dsimp only
  refine RB.cal (A_told_r (F := F) (Z := Z) c1 (by omega) (a := t) (b := io (yh (vy w))) (Or.inl ht) l4) (by omega) (fun s2 c2 d2 d3 => ?_)
  dsimp only
  rw [if_pos rfl]
  refine RB.pl (W_now (F := F) c2.1) c2 (fun s3 c3 d4 => ?_)
  dsimp only
  rw [hE, en1, en2]
  refine RB.cal (A_told_r (F := F) (Z := Z) c3 (by omega) (a := 0) (b := io (yh (vy w) + 1 + e)) (Or.inr ⟨fun c => by
    have c' : io 0 < io 0 ∨ io (yh (vy w)) < io 0 := c
    rw [io_lt (by omega) (by omega), io_lt (by omega) (by omega)] at c'; omega, Or.inr (by rw [io_lt (by omega) (by omega)]; omega)⟩) l4) (by omega) (fun s4 c4 d5 d6 => ?_)
  dsimp only
  rw [if_pos rfl]
  exact R619 (C := C + 2) hF hL hC0 (by omega) 7 F 4 s4 (by omega) (by omega) (by omega) (by omega) c4
theorem R508 (hF : 5000 ≤ F) (hL : LVx A w) (hC : RCx w x e l4 l5 l6 l7) (hZ : C + 77 ≤ Z) (H : CL s w A) (hc : ct s ≤ C) {t : Int32} (ht : t < io 0 ∨ io (yh (vy w) / 8) < t) : RB (f_L_isRefused_b508 F Z s (io x) l4 l5 l6 l7 (io (yh (vy w) / 8)) (allV w) 1 t) 1 s (C + 77) w A := by
  have hC0 := hC
  obtain ⟨hx, he, hE, h4, hP, hR6, hA7⟩ := hC
  have h440 := hL.2.2.2.2.2.2.2
  have en1 : io (yh (vy w)) + 1 = io (yh (vy w) + 1) := io_add _ _
  rw [f_L_isRefused_b508]
  refine RB.cal (O_holder_x (F := F) (Z := Z) hF H (by omega) ht) (by omega) (fun s1 c1 d1 d2 => ?_)
  dsimp only
  rw [if_pos rfl]
  refine RB.cal (O_nights_x (F := F) (Z := Z) hF c1 (by omega) hP) (by omega) (fun s2 c2 d3 d4 => ?_)
  dsimp only
  rw [if_pos rfl]
  refine RB.cal (O_owes_x (F := F) (Z := Z) hF c2 (by omega) (x := l5) (y := l5) (Or.inl hP)) (by omega) (fun s3 c3 d5 d6 => ?_)
  dsimp only
  rw [if_pos rfl]
  rcases h4 with h4 | h4
  · rw [if_pos h4]
    refine RB.pl (W_now (F := F) c3.1) c3 (fun s4 c4 d7 => ?_)
    dsimp only
    rw [en1]
    exact (R570 (C := C + 3) hF hL hC0 (by omega) c4 (by omega) (Or.inr (by rw [io_lt (by omega) (by omega)]; omega))).le (by omega)
  · rw [if_neg (by rw [h4]; decide), hE]
    exact (R570 (C := C + 3) hF hL hC0 (by omega) c3 (by omega) (Or.inl (by rw [Int32.lt_iff_toInt_lt, ngI (by omega), io_toInt (by omega)]; omega))).le (by omega)
theorem R473 (hF : 5000 ≤ F) (hL : LVx A w) (hC : RCx w x e l4 l5 l6 l7) (hZ : C + 78 ≤ Z) (H : CL s w A) (hc : ct s ≤ C) {t : Int32} (ht : ¬ (io (yh (vy w) / 8) < t ∧ t < io 126)) : RB (f_L_isRefused_b473 F Z s (io x) l4 l5 l6 l7 (io (yh (vy w) / 8)) (allV w) 0 t) 1 s (C + 78) w A := by
  have hC0 := hC
  obtain ⟨hx, he, hE, h4, hP, hR6, hA7⟩ := hC
  have h440 := hL.2.2.2.2.2.2.2
  have e1 : io (yh (vy w) / 8) + 1 = io (yh (vy w) / 8 + 1) := io_add _ _
  have e2 : io (yh (vy w) / 8 + 1) + io e = io (yh (vy w) / 8 + 1 + e) := io_add _ _
  rw [f_L_isRefused_b473]
  refine RB.cal (O_planned_x (F := F) (Z := Z) hF H (by omega) ht) (by omega) (fun s1 c1 d1 d2 => ?_)
  dsimp only
  rw [if_pos rfl, hE]
  rcases h4 with h4 | h4
  · rw [if_pos h4, e1, e2]
    exact (R508 (C := C + 1) hF hL hC0 (by omega) c1 (by omega) (Or.inr (by rw [io_lt (by omega) (by omega)]; omega))).le (by omega)
  · rw [if_neg (by rw [h4]; decide)]
    exact (R508 (C := C + 1) hF hL hC0 (by omega) c1 (by omega) (Or.inl (by rw [Int32.lt_iff_toInt_lt, ngI (by omega), io_toInt (by omega)]; omega))).le (by omega)
theorem R296 (hF : 5000 ≤ F) (hL : LVx A w) (hC : RCx w x e l4 l5 l6 l7) (hZ : C + 87 ≤ Z) (H : CL s w A) (hc : ct s ≤ C) {t : Int32} (ht : t < io 0 ∨ io (yh (vy w)) < t) : RB (f_L_isRefused_b296 F Z s (io x) l4 l5 l6 l7 (io (yh (vy w) / 8)) (allV w) 2 0 0 0 t) 1 s (C + 87) w A := by
  have hC0 := hC
  obtain ⟨hx, he, hE, h4, hP, hR6, hA7⟩ := hC
  have h440 := hL.2.2.2.2.2.2.2
  have e1 : io (yh (vy w) / 8) + 1 = io (yh (vy w) / 8 + 1) := io_add _ _
  rw [f_L_isRefused_b296]
  refine RB.cal (A_log_x (F := F) (Z := Z) hF H (by omega) (a1 := 0) (a2 := 0) (a3 := 0) (a4 := t) (Or.inr (Or.inr (Or.inr ht)))) (by omega) (fun s1 c1 d1 d2 => ?_)
  dsimp only
  rw [if_pos rfl]
  refine RB.cal (A_off_x2 (F := F) (Z := Z) hF c1 (by omega) hP) (by omega) (fun s2 c2 d3 d4 => ?_)
  dsimp only
  rw [if_pos rfl]
  refine RB.cal (A_addRule_x2 (F := F) (Z := Z) hF c2 (by omega) hP) (by omega) (fun s3 c3 d5 d6 => ?_)
  dsimp only
  rw [if_pos rfl]
  refine RB.cal (A_drop_x2 (F := F) (Z := Z) hF c3 (by omega) hR6) (by omega) (fun s4 c4 d7 d8 => ?_)
  dsimp only
  rw [if_pos rfl]
  refine RB.cal (A_silence_x2 (F := F) (Z := Z) hF c4 (by omega) hR6) (by omega) (fun s5 c5 d9 d10 => ?_)
  dsimp only
  rw [if_pos rfl]
  refine RB.cal (A_answer_x2 (F := F) (Z := Z) c5 (by omega) (vx := 0) hA7) (by omega) (fun s6 c6 d11 d12 => ?_)
  dsimp only
  rw [if_pos rfl, hE, e1]
  refine RB.cal (A_swap_x0 (F := F) (Z := Z) c6 (by omega) (Or.inl (fun c => by
    have := c.1
    rw [Int32.lt_iff_toInt_lt, sbI (by omega) (by omega), io_toInt (by omega)] at this; omega))) (by omega) (fun s7 c7 d13 d14 => ?_)
  dsimp only
  rw [if_pos rfl]
  refine RB.cal (A_swap_x0 (F := F) (Z := Z) c7 (by omega) (Or.inr (Or.inr rfl))) (by omega) (fun s8 c8 d15 d16 => ?_)
  dsimp only
  rw [if_pos rfl]
  refine RB.cal (A_swap_x0 (F := F) (Z := Z) c8 (by omega) (Or.inr (Or.inl (fun c => by
    have c2 : io 126 + io e < io 126 := c.2
    rw [io_add, io_lt (by omega) (by omega)] at c2; omega)))) (by omega) (fun s9 c9 d17 d18 => ?_)
  dsimp only
  rw [if_pos rfl]
  rcases h4 with h4 | h4
  · rw [if_pos h4]
    exact (R473 (C := C + 9) hF hL hC0 (by omega) c9 (by omega) (fun c => by
      have c2 : io 126 + io e < io 126 := c.2
      rw [io_add, io_lt (by omega) (by omega)] at c2; omega)).le (by omega)
  · rw [if_neg (by rw [h4]; decide)]
    exact (R473 (C := C + 9) hF hL hC0 (by omega) c9 (by omega) (fun c => by
      have := c.1
      rw [Int32.lt_iff_toInt_lt, sbI (by omega) (by omega), io_toInt (by omega)] at this; omega)).le (by omega)
theorem R256 (hF : 5000 ≤ F) (hL : LVx A w) (hC : RCx w x e l4 l5 l6 l7) (hZ : C + 88 ≤ Z) (H : CL s w A) (hc : ct s ≤ C) {t : Int32} (ht : t < -io 1000 ∨ io 1000 < t) : RB (f_L_isRefused_b256 F Z s (io x) l4 l5 l6 l7 (io (yh (vy w) / 8)) (allV w) 2 0 0 t) 1 s (C + 88) w A := by
  have hC0 := hC
  obtain ⟨hx, he, hE, h4, hP, hR6, hA7⟩ := hC
  have h440 := hL.2.2.2.2.2.2.2
  have en1 : io (yh (vy w)) + 1 = io (yh (vy w) + 1) := io_add _ _
  have en2 : io (yh (vy w) + 1) + io e = io (yh (vy w) + 1 + e) := io_add _ _
  rw [f_L_isRefused_b256]
  refine RB.cal (A_log_x (F := F) (Z := Z) hF H (by omega) (a1 := 0) (a2 := 0) (a3 := t) (a4 := 0) (Or.inr (Or.inr (Or.inl ht)))) (by omega) (fun s1 c1 d1 d2 => ?_)
  dsimp only
  rw [if_pos rfl, hE]
  rcases h4 with h4 | h4
  · rw [if_pos h4]
    refine RB.pl (W_now (F := F) c1.1) c1 (fun s2 c2 d3 => ?_)
    dsimp only
    rw [en1, en2]
    exact (R296 (C := C + 1) hF hL hC0 (by omega) c2 (by omega) (Or.inr (by rw [io_lt (by omega) (by omega)]; omega))).le (by omega)
  · rw [if_neg (by rw [h4]; decide)]
    exact (R296 (C := C + 1) hF hL hC0 (by omega) c1 (by omega) (Or.inl (by rw [Int32.lt_iff_toInt_lt, ngI (by omega), io_toInt (by omega)]; omega))).le (by omega)
theorem R222 (hF : 5000 ≤ F) (hL : LVx A w) (hC : RCx w x e l4 l5 l6 l7) (hZ : C + 89 ≤ Z) (H : CL s w A) (hc : ct s ≤ C) {t : Int32} (ht : t < io 0 ∨ io 5 < t) : RB (f_L_isRefused_b222 F Z s (io x) l4 l5 l6 l7 (io (yh (vy w) / 8)) (allV w) 2 0 t) 1 s (C + 89) w A := by
  have hC0 := hC
  obtain ⟨hx, he, hE, h4, hP, hR6, hA7⟩ := hC
  rw [f_L_isRefused_b222]
  refine RB.cal (A_log_x (F := F) (Z := Z) hF H (by omega) (a1 := 0) (a2 := t) (a3 := 0) (a4 := 0) (Or.inr (Or.inl ht))) (by omega) (fun s1 c1 d1 d2 => ?_)
  dsimp only
  rw [if_pos rfl, hE]
  rcases h4 with h4 | h4
  · rw [if_pos h4]
    exact (R256 (C := C + 1) hF hL hC0 (by omega) c1 (by omega) (Or.inr (by decide))).le (by omega)
  · rw [if_neg (by rw [h4]; decide)]
    exact (R256 (C := C + 1) hF hL hC0 (by omega) c1 (by omega) (Or.inl (by rw [Int32.lt_iff_toInt_lt, ngJ (by omega), m1000]; omega))).le (by omega)
theorem R191 (hF : 5000 ≤ F) (hL : LVx A w) (hC : RCx w x e l4 l5 l6 l7) (hZ : C + 90 ≤ Z) (H : CL s w A) (hc : ct s ≤ C) {t : Int32} (ht : t < io 0 ∨ io 7 < t) : RB (f_L_isRefused_b191 F Z s (io x) l4 l5 l6 l7 (io (yh (vy w) / 8)) (allV w) 2 t) 1 s (C + 90) w A := by
  have hC0 := hC
  obtain ⟨hx, he, hE, h4, hP, hR6, hA7⟩ := hC
  rw [f_L_isRefused_b191]
  refine RB.cal (A_log_x (F := F) (Z := Z) hF H (by omega) (a1 := t) (a2 := 0) (a3 := 0) (a4 := 0) (Or.inl ht)) (by omega) (fun s1 c1 d1 d2 => ?_)
  dsimp only
  rw [if_pos rfl, hE]
  rcases h4 with h4 | h4
  · rw [if_pos h4]
    exact (R222 (C := C + 1) hF hL hC0 (by omega) c1 (by omega) (Or.inr (by decide))).le (by omega)
  · rw [if_neg (by rw [h4]; decide)]
    exact (R222 (C := C + 1) hF hL hC0 (by omega) c1 (by omega) (Or.inl (by rw [Int32.lt_iff_toInt_lt, ngI (by omega), io_toInt (by omega)]; omega))).le (by omega)
theorem R161 (hF : 5000 ≤ F) (hL : LVx A w) (hC : RCx w x e l4 l5 l6 l7) (hZ : C + 91 ≤ Z) (H : CL s w A) (hc : ct s ≤ C) {t : Int32} (ht : t < io 1 ∨ io 24 < t) : RB (f_L_isRefused_b161 F Z s (io x) l4 l5 l6 l7 (io (yh (vy w) / 8)) (allV w) 1 t) 1 s (C + 91) w A := by
  have hC0 := hC
  obtain ⟨hx, he, hE, h4, hP, hR6, hA7⟩ := hC
  rw [f_L_isRefused_b161]
  refine RB.cal (A_pass_x (F := F) (Z := Z) hF H (by omega) ht) (by omega) (fun s1 c1 d1 d2 => ?_)
  dsimp only
  rw [if_pos rfl, hE]
  rcases h4 with h4 | h4
  · rw [if_pos h4]
    exact (R191 (C := C + 1) hF hL hC0 (by omega) c1 (by omega) (Or.inr (by decide))).le (by omega)
  · rw [if_neg (by rw [h4]; decide)]
    exact (R191 (C := C + 1) hF hL hC0 (by omega) c1 (by omega) (Or.inl (by rw [Int32.lt_iff_toInt_lt, ngI (by omega), io_toInt (by omega)]; omega))).le (by omega)
theorem R126 (hF : 5000 ≤ F) (hL : LVx A w) (hC : RCx w x e l4 l5 l6 l7) (hZ : C + 92 ≤ Z) (H : CL s w A) (hc : ct s ≤ C) {t : Nat} (ht : t < 32 ∨ (126 < t ∧ t < 1000)) : RB (f_L_isRefused_b126 F Z s (io x) l4 l5 l6 l7 (io (yh (vy w) / 8)) (allV w) 0 (io t)) 1 s (C + 92) w A := by
  have hC0 := hC
  obtain ⟨hx, he, hE, h4, hP, hR6, hA7⟩ := hC
  rw [f_L_isRefused_b126]
  refine RB.cal (A_type_x (F := F) (Z := Z) H (by omega) ht) (by omega) (fun s1 c1 d1 d2 => ?_)
  dsimp only
  rw [if_pos rfl, hE]
  rcases h4 with h4 | h4
  · rw [if_pos h4]
    exact (R161 (C := C + 1) hF hL hC0 (by omega) c1 (by omega) (Or.inr (by
      show io 24 < io 25 + io e
      rw [io_add, io_lt (by omega) (by omega)]; omega))).le (by omega)
  · rw [if_neg (by rw [h4]; decide)]
    exact (R161 (C := C + 1) hF hL hC0 (by omega) c1 (by omega) (Or.inl (by
      show io 0 - io e < io 1
      rw [Int32.lt_iff_toInt_lt, sbI (by omega) (by omega), io_toInt (by omega)]; omega))).le (by omega)
theorem R84 (hF : 5000 ≤ F) (hL : LVx A w) (hC : RCx w x e l4 l5 l6 l7) (hZ : C + 93 ≤ Z) (H : CL s w A) (hc : ct s ≤ C) : RB (f_L_isRefused_b84 F Z s (io x) l4 l5 l6 l7) 1 s (C + 93) w A := by
  have hC0 := hC
  obtain ⟨hx, he, hE, h4, hP, hR6, hA7⟩ := hC
  have h440 := hL.2.2.2.2.2.2.2
  have e8 : io (yh (vy w)) / 8 = io (yh (vy w) / 8) := io_div (by omega) (b := 8) (by decide)
  rw [f_L_isRefused_b84]
  refine RB.pl (W_now (F := F) H.1) H (fun s1 c1 d1 => ?_)
  dsimp only
  refine RB.cal (L_all (F := F) (Z := Z) hF c1 hL.1 h440 (by omega)) (by omega) (fun s2 c2 d2 d3 => ?_)
  dsimp only
  rw [hE, e8]
  rcases h4 with h4 | h4
  · rw [if_pos h4]
    have ea : (127 : Int32) + io e = io (127 + e) := io_add 127 e
    rw [ea]
    exact (R126 (C := C + 1) hF hL hC0 (by omega) c2 (by omega) (Or.inr (by omega))).le (by omega)
  · rw [if_neg (by rw [h4]; decide)]
    have ea : (31 : Int32) - io e = io (31 - e) := io_sub (a := 31) (by omega)
    rw [ea]
    exact (R126 (C := C + 1) hF hL hC0 (by omega) c2 (by omega) (Or.inl (by omega))).le (by omega)
theorem L_isRefused (hF : 5000 ≤ F) (H : CL s w A) (hL : LVx A w) (h63 : yc (vy w) ≤ 63) (hx : x < 1000000000) (hZ : ct s + 93 ≤ Z) : RB (f_L_isRefused F Z s (io x)) 1 s (ct s + 93) w A := by
  have hn := H.1.n.2
  have hR := H.1.r.2
  have lp := hL.1
  obtain ⟨e, hee⟩ : ∃ e, e = x % 30 := ⟨_, rfl⟩
  have he : e < 30 := by rw [hee]; exact Nat.mod_lt _ (by decide)
  have hE : io x - io x / 30 * 30 = io e := by rw [hee]; exact md9 30 (by omega) (by omega)
  have e2 : io x - io x / 2 * 2 = io (x % 2) := md9 2 (by omega) (by omega)
  have a1 : io (vn w) + io e = io (vn w + e) := io_add _ _
  have a2 : io (vR w) + io e = io (vR w + e) := io_add _ _
  have a3 : io (yc (vy w)) + io e = io (yc (vy w) + e) := io_add _ _
  rw [f_L_isRefused, e2]
  by_cases h2 : x % 2 = 0
  · rw [if_pos (show io (x % 2) = 0 by rw [h2]; rfl), f_L_isRefused_b11, if_neg (show ¬ (1 : Int32) = 0 by decide), f_L_isRefused_b35, if_neg (show ¬ (1 : Int32) = 0 by decide), f_L_isRefused_b59, if_neg (show ¬ (1 : Int32) = 0 by decide), hE]
    exact R84 (C := ct s) hF hL ⟨hx, he, hE, Or.inr rfl, bad_neg he (by omega), bad_ne (by omega) (bad_neg he (by omega)), bad_ne (by omega) (bad_neg he (by omega))⟩ (by omega) H (Nat.le_refl _)
  · rw [if_neg (nz0 (by omega) h2), f_L_isRefused_b11, if_pos rfl, show (ix 4 0 : Option Nat) = some 0 from rfl, Option.bind_some, H.2 39 (by decide), lp.1, hE, a1, f_L_isRefused_b35, if_pos rfl, show (ix 4 1 : Option Nat) = some 1 from rfl, Option.bind_some, H.2 39 (by decide), lp.2.1, hE, a2, f_L_isRefused_b59, if_pos rfl]
    refine RB.pl (W_alarms (F := F) H.1) H (fun s1 c1 d1 => ?_)
    dsimp only
    rw [hE, a3]
    exact R84 (C := ct s) hF hL ⟨hx, he, hE, Or.inl rfl, bad_pos he (by omega), bad_ne (by omega) (bad_pos he (by omega)), bad_ne (by omega) (bad_pos he (by omega))⟩ (by omega) c1 (by omega)
end RG9
