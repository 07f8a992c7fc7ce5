/-! areShifts -/
section SH
variable {F Z : Nat} {s : St} {w : WD} {A : LA}
theorem neg_lits : ((-1 : Int32) = -io 1) ∧ ¬ (-io 1 : Int32) < -1 ∧ (-io 1 : Int32) < 0 ∧ ¬ (0 : Int32) ≤ -io 1 := by decide
theorem nlt_m1 {q : Nat} (hq : q < 2147483648) : ¬ io q < (-1 : Int32) := by
  show ¬ io q < -io 1
  rw [i32_nlt, Int32.le_iff_toInt_le, io_toInt hq]
  have : (-io 1 : Int32).toInt = -1 := by decide
  omega
theorem nle_m1 {q : Nat} (hq : q < 2147483648) : ¬ io q ≤ -io 1 := by
  rw [i32_nle, Int32.lt_iff_toInt_lt, io_toInt hq]
  have : (-io 1 : Int32).toInt = -1 := by decide
  omega
theorem nz0 {q : Nat} (hq : q < 2147483648) (h : q ≠ 0) : ¬ io q = 0 := by
  show ¬ io q = io 0
  rw [io_eq hq (by decide)]; exact h
theorem ge0 {q : Nat} (hq : q < 2147483648) : (0 : Int32) ≤ io q := by
  show io 0 ≤ io q
  rw [io_le (by decide) hq]; omega
theorem C_holder (H : CL s w A) {j : Nat} (h1 : j ≤ yh (vy w) / 8) : RB (qc Z s (fun z => f_P_holder F z s (io j))) (.inl (gho (yg (vy w)) j)) s (ct s) w A := RB.cr H (W_holder H.1 h1)
theorem C_nights (hF : 5000 ≤ F) (H : CL s w A) {q : Nat} (hq : q < vn w) : RB (qc Z s (fun z => f_P_nights F z s (io q))) (.inl (io (ngt (yg (vy w)) q))) s (ct s) w A := RB.cr H (W_nights hF H.1 hq)
theorem C_owes (hF : 5000 ≤ F) (H : CL s w A) {a b : Nat} (ha : a < vn w) (hb : b < vn w) : RB (qc Z s (fun z => f_P_owes F z s (io a) (io b))) (.inl (io (owe (yg (vy w)) (yd (vy w)) a b))) s (ct s) w A := RB.cr H (W_owes hF H.1 ha hb)
theorem C_planned (H : CL s w A) {j : Nat} (h1 : yh (vy w) / 8 < j) (h2 : j < 126) : RB (qc Z s (fun z => f_P_planned F z s (io j))) (.inl (plan2 (yg (vy w)) (vn w) j)) s (ct s) w A := RB.cr H (W_planned H.1 h1 h2)
/-- the rota's part of the world -/
theorem CL.g (H : CL s w A) : ROg (yg (vy w)) (yh (vy w)) (vn w) ∧ DBg (yg (vy w)) (vn w) (yd (vy w)) := ⟨H.1.2.1.2.1, H.1.2.1.2.2.1⟩
theorem S355 (hF : 5000 ≤ F) (H : CL s w A) (hN : GN (vn w) (vR w) (vy w)) {l12 : Int32} (h9 : yh (vy w) / 8 + 1 < 126)
    (hl : (l12 = 1) ∨ (l12 = 0 ∧ (vn w = 0 ∨ ∃ q, q < vn w ∧ plan2 (yg (vy w)) (vn w) (yh (vy w) / 8 + 1) = io q ∧ (gof (yg (vy w)) (yh (vy w) / 8 + 1)).testBit q = false))) :
    RB (f_L_areShifts_b355 F Z s (io (yh (vy w) / 8)) (hold2 (yg (vy w)) (vn w) (yd (vy w)) (yh (vy w) / 8 + 1)) (plan2 (yg (vy w)) (vn w) (yh (vy w) / 8 + 1)) l12) 1 s (ct s) w A := by
  obtain ⟨G, K⟩ := H.g
  have hn := H.1.n.2
  have hd := K.1
  obtain ⟨j, hj⟩ : ∃ j, j = yh (vy w) / 8 + 1 := ⟨_, rfl⟩
  have e1 : io (yh (vy w) / 8) + 1 = io (yh (vy w) / 8 + 1) := io_add _ _
  rw [f_L_areShifts_b355, e1, ← hj]
  rw [← hj] at hl h9
  have e2 : io j - io j / 3 * 3 = io (j % 3) := md9 3 (by omega) (by omega)
  rw [e2]
  rcases hl with rfl | ⟨rfl, hl⟩
  · rw [if_neg (by decide)]; exact RB.ret H (Nat.le_refl _)
  · rw [if_pos rfl]
    rcases hl with h0 | ⟨q, hq, ep, eo⟩
    · rw [if_pos (show hold2 (yg (vy w)) (vn w) (yd (vy w)) j = plan2 (yg (vy w)) (vn w) j by unfold hold2 plan2; rw [if_pos h0, if_pos h0])]
      exact RB.ret H (Nat.le_refl _)
    · rcases hold2_first G K h9 hn hq ep eo with ⟨-, h2⟩ | ⟨i, hi, -, h2, h3, h4⟩
      · rw [if_pos (by rw [h2, ep])]; exact RB.ret H (Nat.le_refl _)
      · obtain ⟨k1, k2⟩ := K.2 i hi
        have hne := hN.2.2.2.1 i hi
        have hp := owe_pos (g := yg (vy w)) hi
        have hc := cnt_le (fun k => decide (gda (yg (vy w)) k = gda (yg (vy w)) i ∧ gdb (yg (vy w)) k = gdb (yg (vy w)) i)) (yd (vy w))
        have hc' : owe (yg (vy w)) (yd (vy w)) (gda (yg (vy w)) i) (gdb (yg (vy w)) i) ≤ yd (vy w) := hc
        rw [h2, ep, if_neg (by rw [io_eq (by omega) (by omega), ← h3]; exact hne), if_pos (by rw [h4]; rfl)]
        rw [← h3]
        refine RB.tk (C_owes (Z := Z) hF H k1 k2) (fun s1 c1 d1 d2 => ?_)
        dsimp only
        rw [if_neg (by
          show ¬ io (owe (yg (vy w)) (yd (vy w)) (gda (yg (vy w)) i) (gdb (yg (vy w)) i)) ≤ io 0
          rw [io_le (by omega) (by decide)]; omega)]
        exact RB.ret c1 d2
theorem S308 (hF : 5000 ≤ F) (H : CL s w A) (hL : LVx A w) {l12 l9 t1 : Int32}
    (hl : (l12 = 1) ∨ (l12 = 0 ∧ (vn w = 0 ∨ ∃ q, q < vn w ∧ plan2 (yg (vy w)) (vn w) (yh (vy w) / 8 + 1) = io q ∧ (gof (yg (vy w)) (yh (vy w) / 8 + 1)).testBit q = false))) (ht : ¬ t1 ≤ l9) :
    RB (f_L_areShifts_b308 F Z s (io (yh (vy w) / 8)) (hold2 (yg (vy w)) (vn w) (yd (vy w)) (yh (vy w) / 8 + 1)) (plan2 (yg (vy w)) (vn w) (yh (vy w) / 8 + 1)) l12 l9 t1) 1 s (ct s) w A := by
  obtain ⟨G, K⟩ := H.g
  have hn := H.1.n.2
  have hh := hL.2.2.2.2.2.2.2
  have h9 : yh (vy w) / 8 + 1 < 126 := by omega
  have hN := hL.2.2.2.2.2.1
  have h355 := S355 (F := F) (Z := Z) hF H hN h9 hl
  have e1 : io (yh (vy w) / 8) + 1 = io (yh (vy w) / 8 + 1) := io_add _ _
  have eF := hL.2.2.1 (yh (vy w) / 8 + 1) (by omega)
  have hnob := hold2_nob (d := yd (vy w)) G K h9 hn
  have hg := (G (yh (vy w) / 8 + 1) h9).2.1
  rw [f_L_areShifts_b308, if_neg ht, e1, ix_io (show yh (vy w) / 8 + 1 < 64 by omega) (by decide), Option.bind_some, show (ix 4 0 : Option Nat) = some 0 from rfl, Option.bind_some, Option.bind_some, H.2 41 (by decide), H.2 39 (by decide), eF, hL.1.1]
  rcases hnob with h0 | ⟨q, hq, h0⟩
  · rw [if_neg (by rw [h0]; exact neg_lits.2.2.2)]
    by_cases hz : vn w = 0
    · rw [if_pos (by rw [hz]; rfl)]; exact h355
    · rw [if_neg (by
        show ¬ io (vn w) = io 0
        rw [io_eq (by omega) (by decide)]; exact hz), Option.bind_some, hL.1.1, shl1 hn]
      have hall := (hold2_all G K h9 hn h0).resolve_left hz
      rw [if_pos (by rw [all_off (hN.2.1 _ h9) hall])]
      exact h355
  · have hoff := hold2_off G K h9 hn (show q < 8 by omega) h0
    rw [if_pos (by rw [h0]; exact ge0 (by omega))]
    have : ((io (gof (yg (vy w)) (yh (vy w) / 8 + 1)) >>> (hold2 (yg (vy w)) (vn w) (yd (vy w)) (yh (vy w) / 8 + 1) &&& 31)) &&& 1) = 0 := by
      rw [h0, bitq hg (by omega), hoff]; rfl
    rw [if_pos this]
    exact h355
theorem S248 (hF : 5000 ≤ F) (H : CL s w A) (hL : LVx A w) {l12 : Int32} {j : Nat} (hj : yh (vy w) / 8 < j) (hj2 : j < 126)
    (hl : (l12 = 1) ∨ (l12 = 0 ∧ (vn w = 0 ∨ ∃ q, q < vn w ∧ plan2 (yg (vy w)) (vn w) (yh (vy w) / 8 + 1) = io q ∧ (gof (yg (vy w)) (yh (vy w) / 8 + 1)).testBit q = false))) :
    RB (f_L_areShifts_b248 F Z s (io (yh (vy w) / 8)) 1 0 (io (yd (vy w))) (plan2 (yg (vy w)) (vn w) j) (hold2 (yg (vy w)) (vn w) (yd (vy w)) (yh (vy w) / 8 + 1)) (plan2 (yg (vy w)) (vn w) (yh (vy w) / 8 + 1)) l12) 1 s (ct s) w A := by
  obtain ⟨G, K⟩ := H.g
  have hn := H.1.n.2
  have hN := hL.2.2.2.2.2.1
  rw [f_L_areShifts_b248, if_neg (show ¬ (1 : Int32) = 0 by decide), if_pos rfl, show (ix 4 3 : Option Nat) = some 3 from rfl, Option.bind_some, H.2 39 (by decide), hL.1.2.2.2, if_pos rfl]
  have hho := C_holder (F := F) (Z := Z) H (j := 0) (Nat.zero_le _)
  rw [hN.1] at hho
  refine RB.tk hho (fun s1 c1 d1 d2 => ?_)
  dsimp only
  rw [if_pos (show (-io 1 : Int32) = -1 from rfl), show (ix 4 0 : Option Nat) = some 0 from rfl, Option.bind_some, c1.2 39 (by decide), hL.1.1]
  by_cases hz : vn w = 0
  · rw [if_pos (show io (vn w) ≤ 0 by rw [hz]; decide), f_L_areShifts_b290]
    have hp : plan2 (yg (vy w)) (vn w) j = -io 1 := by unfold plan2; rw [if_pos hz]
    rw [if_neg (show ¬ plan2 (yg (vy w)) (vn w) j < -1 by rw [hp]; exact neg_lits.2.1), show (ix 4 0 : Option Nat) = some 0 from rfl, Option.bind_some, c1.2 39 (by decide), hL.1.1, if_pos (show io (vn w) ≤ 0 by rw [hz]; decide)]
    exact (S308 hF c1 hL hl (by rw [hp]; exact neg_lits.2.2.2)).le d2
  · have np : ¬ io (vn w) ≤ 0 := by
      show ¬ io (vn w) ≤ io 0
      rw [io_le (by omega) (by decide)]; omega
    obtain ⟨q, hq, hp⟩ := plan2_some G hj2 hz
    rw [if_neg np, f_L_areShifts_b290, if_neg (show ¬ plan2 (yg (vy w)) (vn w) j < 0 by rw [hp]; exact nn0 (by omega)), show (ix 4 0 : Option Nat) = some 0 from rfl, Option.bind_some, c1.2 39 (by decide), hL.1.1, if_neg np, Option.bind_some]
    exact (S308 hF c1 hL hl (by rw [hL.1.1, hp, io_le (by omega) (by omega)]; omega)).le d2
theorem S_row (hF : 5000 ≤ F) (hA : A 39 0 = io (vn w)) {k x : Nat} (hk : k < vn w) {T S : Nat} (hS : S + rwo (yg (vy w)) (yd (vy w)) k (vn w) ≤ 4000) {K : St → Int32 → Int32 → Int32 → Int32 → Int32 → Int32 → Option (Int32 × St)} {C : Nat}
    (kk : ∀ s1, CL s1 w A → ct s1 ≤ C → RB (K s1 (io x) (io (yh (vy w) / 8)) 1 (io T) (io (S + rwo (yg (vy w)) (yd (vy w)) k (vn w))) (io (k + 1))) 1 s1 C w A) :
    ∀ (j N m : Nat) (s : St), m + j = vn w → j < N → ct s ≤ C → CL s w A → RB (f_L_areShifts_b155 F Z K N s (io x) (io (yh (vy w) / 8)) 1 (io T) (io (S + smf (fun b => owe (yg (vy w)) (yd (vy w)) k b) m)) (io k) (io m)) 1 s C w A := by
  intro j
  induction j with
  | zero =>
    intro N m s hm hN hc H
    obtain ⟨N, rfl⟩ : ∃ N', N = N' + 1 := ⟨N - 1, by omega⟩
    have hn := H.1.n.2
    have hm' : m = vn w := by omega
    subst hm'
    have ek : io k + 1 = io (k + 1) := io_add _ _
    rw [f_L_areShifts_b155, show (ix 4 0 : Option Nat) = some 0 from rfl, Option.bind_some, H.2 39 (by decide), hA, if_pos (Int32.le_refl _), ek]
    exact kk s H hc
  | succ j ih =>
    intro N m s hm hN hc H
    obtain ⟨N, rfl⟩ : ∃ N', N = N' + 1 := ⟨N - 1, by omega⟩
    have hn := H.1.n.2
    have em : io m + 1 = io (m + 1) := io_add _ _
    rw [f_L_areShifts_b155, show (ix 4 0 : Option Nat) = some 0 from rfl, Option.bind_some, H.2 39 (by decide), hA, if_neg (show ¬ io (vn w) ≤ io m by rw [io_le (by omega) (by omega)]; omega)]
    refine RB.tk (C_owes (Z := Z) hF H hk (show m < vn w by omega)) (fun s1 c1 d1 d2 => ?_)
    dsimp only
    have es : io (S + smf (fun b => owe (yg (vy w)) (yd (vy w)) k b) m) + io (owe (yg (vy w)) (yd (vy w)) k m) = io (S + smf (fun b => owe (yg (vy w)) (yd (vy w)) k b) (m + 1)) := by
      rw [io_add]; congr 1
      show _ = S + (smf (fun b => owe (yg (vy w)) (yd (vy w)) k b) m + owe (yg (vy w)) (yd (vy w)) k m)
      omega
    rw [es, em]
    exact ih N (m + 1) s1 (by omega) (by omega) (by omega) c1
theorem S_people (hF : 5000 ≤ F) (hL : LVx A w) {x : Nat} (hx : x < 100000000) {C : Nat} : ∀ (j N k : Nat) (s : St), k + j = vn w → j < N → ct s ≤ C → CL s w A →
    RB (f_L_areShifts_b110 F Z N s (io x) (io (yh (vy w) / 8)) 1 (io (cnt (nhd (yg (vy w))) 126 - smf (ngt (yg (vy w))) k)) (io (smf (fun a => rwo (yg (vy w)) (yd (vy w)) a (vn w)) k)) (io k)) 1 s C w A := by
  have hh := hL.2.2.2.2.2.2.2
  have hN9 := hL.2.2.2.2.2.1
  intro j
  induction j with
  | zero =>
    intro N k s hk hN hc H
    obtain ⟨N, rfl⟩ : ∃ N', N = N' + 1 := ⟨N - 1, by omega⟩
    obtain ⟨G, K⟩ := H.g
    have hn := H.1.n.2
    have hk' : k = vn w := by omega
    subst hk'
    have e6 : io x - io x / 6 * 6 = io (x % 6) := md9 6 (by omega) (by omega)
    have hm6 : x % 6 < 6 := Nat.mod_lt _ (by decide)
    have e1 : io (yh (vy w) / 8) + 1 = io (yh (vy w) / 8 + 1) := io_add _ _
    have e2 : io (yh (vy w) / 8 + 1) + io (x % 6) = io (yh (vy w) / 8 + 1 + x % 6) := io_add _ _
    have eT : cnt (nhd (yg (vy w))) 126 - smf (ngt (yg (vy w))) (vn w) = 0 := by rw [ngt_sum G hn]; omega
    rw [f_L_areShifts_b110, show (ix 4 0 : Option Nat) = some 0 from rfl, Option.bind_some, H.2 39 (by decide), hL.1.1, if_pos (Int32.le_refl _), e6, e1, e2, eT, owe_sum K]
    refine RB.tk (C_planned (F := F) (Z := Z) H (show yh (vy w) / 8 < yh (vy w) / 8 + 1 + x % 6 by omega) (by omega)) (fun s1 c1 d1 d2 => ?_)
    dsimp only
    refine RB.pl (W_next hF c1.1 (by omega)) c1 (fun s2 c2 d3 => ?_)
    dsimp only
    refine RB.tk (C_planned (F := F) (Z := Z) c2 (show yh (vy w) / 8 < yh (vy w) / 8 + 1 by omega) (by omega)) (fun s3 c3 d4 d5 => ?_)
    dsimp only
    have S := fun {l12 : Int32} h => (S248 (F := F) (Z := Z) (l12 := l12) hF c3 hL (show yh (vy w) / 8 < yh (vy w) / 8 + 1 + x % 6 by omega) (by omega) h).le (show ct s3 ≤ C by omega)
    by_cases hz : vn w = 0
    · have hp : plan2 (yg (vy w)) (vn w) (yh (vy w) / 8 + 1) = -io 1 := by unfold plan2; rw [if_pos hz]
      rw [if_pos (show plan2 (yg (vy w)) (vn w) (yh (vy w) / 8 + 1) < 0 by rw [hp]; exact neg_lits.2.2.1)]
      exact S (Or.inr ⟨rfl, Or.inl hz⟩)
    · obtain ⟨q, hq, hp⟩ := plan2_some G (show yh (vy w) / 8 + 1 < 126 by omega) hz
      have eF := hL.2.2.1 (yh (vy w) / 8 + 1) (by omega)
      have hg := (G (yh (vy w) / 8 + 1) (by omega)).2.1
      rw [if_neg (show ¬ plan2 (yg (vy w)) (vn w) (yh (vy w) / 8 + 1) < 0 by rw [hp]; exact nn0 (by omega)), ix_io (show yh (vy w) / 8 + 1 < 64 by omega) (by decide), Option.bind_some, c3.2 41 (by decide), eF]
      have hbit : ((io (gof (yg (vy w)) (yh (vy w) / 8 + 1)) >>> (plan2 (yg (vy w)) (vn w) (yh (vy w) / 8 + 1) &&& 31)) &&& 1) = io (if (gof (yg (vy w)) (yh (vy w) / 8 + 1)).testBit q then 1 else 0) := by
        rw [hp]; exact bitq hg (by omega)
      rw [hbit]
      by_cases hb : (gof (yg (vy w)) (yh (vy w) / 8 + 1)).testBit q = true
      · rw [if_pos hb, if_pos (show io 1 = 1 from rfl)]
        exact S (Or.inl rfl)
      · rw [if_neg hb, if_neg (show ¬ io 0 = 1 by decide)]
        exact S (Or.inr ⟨rfl, Or.inr ⟨q, hq, hp, by simpa using hb⟩⟩)
  | succ j ih =>
    intro N k s hk hN hc H
    obtain ⟨N, rfl⟩ : ∃ N', N = N' + 1 := ⟨N - 1, by omega⟩
    obtain ⟨G, K⟩ := H.g
    have hn := H.1.n.2
    have hkn : k < vn w := by omega
    have m1 := smf_mono (ngt (yg (vy w))) (show k + 1 ≤ vn w by omega)
    have m2 := ngt_sum G hn
    have m3 : smf (ngt (yg (vy w))) (k + 1) = smf (ngt (yg (vy w))) k + ngt (yg (vy w)) k := rfl
    have m4 := smf_mono (fun a => rwo (yg (vy w)) (yd (vy w)) a (vn w)) (show k + 1 ≤ vn w by omega)
    have m5 := owe_sum K
    have m6 : smf (fun a => rwo (yg (vy w)) (yd (vy w)) a (vn w)) (k + 1) = smf (fun a => rwo (yg (vy w)) (yd (vy w)) a (vn w)) k + rwo (yg (vy w)) (yd (vy w)) k (vn w) := rfl
    have hd := K.1
    have es : io (cnt (nhd (yg (vy w))) 126 - smf (ngt (yg (vy w))) k) - io (ngt (yg (vy w)) k) = io (cnt (nhd (yg (vy w))) 126 - smf (ngt (yg (vy w))) (k + 1)) := by
      rw [io_sub (by omega), m3]; congr 1; omega
    rw [f_L_areShifts_b110, show (ix 4 0 : Option Nat) = some 0 from rfl, Option.bind_some, H.2 39 (by decide), hL.1.1, if_neg (show ¬ io (vn w) ≤ io k by rw [io_le (by omega) (by omega)]; omega)]
    refine RB.tk (C_nights (Z := Z) hF H hkn) (fun s1 c1 d1 d2 => ?_)
    dsimp only
    rw [if_neg (show ¬ (1 : Int32) = 0 by decide), es]
    have ho := C_owes (F := F) (Z := Z) hF c1 hkn hkn
    rw [owe_self hN9.2.2.2.1] at ho
    refine RB.tk ho (fun s2 c2 d3 d4 => ?_)
    dsimp only
    rw [if_pos (show io 0 = 0 from rfl)]
    exact S_row hF hL.1.1 hkn (S := smf (fun a => rwo (yg (vy w)) (yd (vy w)) a (vn w)) k) (by omega) (fun s3 c3 d5 => ih N (k + 1) s3 (by omega) (by omega) d5 c3) (vn w) F 0 s2 (by omega) (by omega) (by omega) c2
theorem S_shifts (hF : 5000 ≤ F) (hL : LVx A w) {x : Nat} (hx : x < 100000000) {C : Nat} : ∀ (j N k : Nat) (s : St), k + j = yh (vy w) / 8 + 1 → j < N → ct s ≤ C → CL s w A →
    RB (f_L_areShifts_b18 F Z N s (io x) (io (yh (vy w) / 8)) 1 (io (cnt (nhd (yg (vy w))) k)) (io k)) 1 s C w A := by
  have hh := hL.2.2.2.2.2.2.2
  have hN9 := hL.2.2.2.2.2.1
  intro j
  induction j with
  | zero =>
    intro N k s hk hN hc H
    obtain ⟨N, rfl⟩ : ∃ N', N = N' + 1 := ⟨N - 1, by omega⟩
    obtain ⟨G, K⟩ := H.g
    have hn := H.1.n.2
    rw [f_L_areShifts_b18, if_pos (show io (yh (vy w) / 8) < io k by rw [io_lt (by omega) (by omega)]; omega)]
    have hk' : k = yh (vy w) / 8 + 1 := by omega
    have h := S_people (F := F) (Z := Z) hF hL hx (C := C) (vn w) F 0 s (by omega) (by omega) hc H
    rw [hk', ← nhd_now G (by omega)]
    exact h
  | succ j ih =>
    intro N k s hk hN hc H
    obtain ⟨N, rfl⟩ : ∃ N', N = N' + 1 := ⟨N - 1, by omega⟩
    obtain ⟨G, K⟩ := H.g
    have hn := H.1.n.2
    have hkh : k ≤ yh (vy w) / 8 := by omega
    have ek : io k + 1 = io (k + 1) := io_add _ _
    have hcl := cnt_le (nhd (yg (vy w))) k
    have hsc : cnt (nhd (yg (vy w))) (k + 1) = cnt (nhd (yg (vy w))) k + if nhd (yg (vy w)) k = true then 1 else 0 := rfl
    have e0 : io (cnt (nhd (yg (vy w))) k) + 0 = io (cnt (nhd (yg (vy w))) k) := Int32.add_zero _
    have e1 : io (cnt (nhd (yg (vy w))) k) + 1 = io (cnt (nhd (yg (vy w))) k + 1) := io_add _ _
    rw [f_L_areShifts_b18, if_neg (show ¬ io (yh (vy w) / 8) < io k by rw [io_lt (by omega) (by omega)]; omega), if_neg (show ¬ (1 : Int32) = 0 by decide)]
    refine RB.tk (C_holder (F := F) (Z := Z) H hkh) (fun s1 c1 d1 d2 => ?_)
    dsimp only
    rw [show (ix 4 0 : Option Nat) = some 0 from rfl, Option.bind_some, c1.2 39 (by decide), hL.1.1]
    have hih := ih N (k + 1) s1 (by omega) (by omega) (by omega) c1
    rw [hsc] at hih
    rcases (G k (by omega)).2.2.1 with h0 | ⟨q, hq, h0⟩
    · rw [if_neg (show ¬ gho (yg (vy w)) k < -1 by rw [h0]; exact neg_lits.2.1), if_neg (show ¬ io (vn w) ≤ gho (yg (vy w)) k by rw [h0]; exact nle_m1 (by omega)), if_pos (show gho (yg (vy w)) k < 0 by rw [h0]; exact neg_lits.2.2.1), f_L_areShifts_b74, if_pos (show gho (yg (vy w)) k < 0 by rw [h0]; exact neg_lits.2.2.1), e0, ek]
      rw [if_neg (by unfold nhd; rw [h0]; simp), Nat.add_zero] at hih
      exact hih
    · have eF := hL.2.2.1 k (by omega)
      have hg := (G k (by omega)).2.1
      have hoff := hN9.2.2.1 k q (by omega) (by omega) h0
      have hbit : ((io (gof (yg (vy w)) k) >>> (gho (yg (vy w)) k &&& 31)) &&& 1) = 0 := by rw [h0, bitq hg (by omega), hoff]; rfl
      have hneg : ¬ io q = -io 1 := by rw [io_neg1 (by omega)]; exact id
      have e3 : io k - io k / 3 * 3 = io (k % 3) := md9 3 (by omega) (by omega)
      rw [if_neg (show ¬ gho (yg (vy w)) k < -1 by rw [h0]; exact nlt_m1 (by omega)), if_neg (show ¬ io (vn w) ≤ gho (yg (vy w)) k by rw [h0, io_le (by omega) (by omega)]; omega), if_neg (show ¬ gho (yg (vy w)) k < 0 by rw [h0]; exact nn0 (by omega)), ix_io (show k < 64 by omega) (by decide), Option.bind_some, c1.2 41 (by decide), eF, if_pos hbit, f_L_areShifts_b74, if_neg (show ¬ gho (yg (vy w)) k < 0 by rw [h0]; exact nn0 (by omega)), e3]
      by_cases hk3 : k % 3 = 0
      · rw [if_pos (show io (k % 3) = 0 by rw [hk3]; rfl), e1, ek]
        rw [if_pos (by unfold nhd; rw [h0]; simp [hk3, hneg])] at hih
        exact hih
      · rw [if_neg (nz0 (by omega) hk3), e0, ek]
        rw [if_neg (by unfold nhd; simp [hk3]), Nat.add_zero] at hih
        exact hih
theorem L_areShifts (hF : 5000 ≤ F) (H : CL s w A) (hL : LVx A w) {x : Nat} (hx : x < 100000000) : RB (f_L_areShifts F Z s (io x)) 1 s (ct s) w A := by
  have hh := hL.2.2.2.2.2.2.2
  have e8 : io (yh (vy w)) / 8 = io (yh (vy w) / 8) := io_div (by omega) (b := 8) (by decide)
  rw [f_L_areShifts]
  refine RB.pl (W_now (F := F) H.1) H (fun s2 c2 d2 => ?_)
  dsimp only
  rw [e8]
  have h := S_shifts (F := F) (Z := Z) hF hL hx (C := ct s) (yh (vy w) / 8) F 1 s2 (by omega) (by omega) (by omega) c2
  have e : cnt (nhd (yg (vy w))) 1 = 0 := by
    show 0 + (if nhd (yg (vy w)) 0 = true then 1 else 0) = 0
    have hN9 := hL.2.2.2.2.2.1.1
    unfold nhd
    rw [hN9]; rfl
  rw [e] at h
  exact h
end SH
