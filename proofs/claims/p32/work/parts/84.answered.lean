/-! isAnswered -/
section AW
variable {F Z : Nat} {s : St} {w : WD} {A : LA}
theorem ANx {A : LA} {w : WD} (h : AAx A w) {i : Nat} (hi : i < 64) {B : LA} (hB : B 44 = ups (A 44) i 1) (hc : i < yc (vy w)) {w' : WD} (h1 : yc (vy w') = yc (vy w)) (h2 : ya (vy w') = aans (ya (vy w)) i) : AAx B w' := fun j hj => by
  rw [hB, h1, h2]
  have e : xa (aans (ya (vy w)) i) j = if j = i then 1 else xa (ya (vy w)) j := rfl
  rw [e]
  unfold ups
  by_cases hji : j = i
  · rw [if_pos hji, if_pos hji, if_pos (by omega)]; rfl
  · rw [if_neg hji, if_neg hji]; exact h j hj
theorem B21 (H : CL s w A) {c : Nat} (hI : IVx c w A) {i : Nat} (hi : i < yc (vy w)) (h : ¬ i < yw (vy w) ∨ xa (ya (vy w)) i = 1) (hZ : ct s + 1 ≤ Z) (l5 : Int32) : RPx (f_L_isAnswered_b21 F Z s (io i) l5) 1 s (ct s + 1) (IVx (c + 1)) := by
  have hI' : IVx (c + 1) w A := ⟨hI.1, Nat.le_succ_of_le hI.2.1, hI.2.2⟩
  rw [f_L_isAnswered_b21]
  by_cases h5 : l5 = 0
  · rw [if_pos h5]
    refine RPx.cal (A_answer_x1 (F := F) (Z := Z) H (by omega) (vx := 0) hi h) (by omega) (fun s1 c1 d1 d2 => ?_)
    dsimp only
    rw [if_pos rfl]
    exact RPx.ret c1 hI' d2
  · rw [if_neg h5]
    refine RPx.cal (A_answer_x1 (F := F) (Z := Z) H (by omega) (vx := 1) hi h) (by omega) (fun s1 c1 d1 d2 => ?_)
    dsimp only
    rw [if_pos rfl]
    exact RPx.ret c1 hI' d2
theorem L_isAnswered (hF : 5000 ≤ F) (H : CL s w A) {c : Nat} (hI : IVx c w A) (hc : c < 3000) {i v : Nat} (hi : i < yc (vy w)) (hv : v ≤ 1) (hZ : ct s + 1 ≤ Z) : RPx (f_L_isAnswered F Z s (io i) (io v)) 1 s (ct s + 1) (IVx (c + 1)) := by
  have hI0 := hI
  obtain ⟨hL, hd, h63⟩ := hI
  obtain ⟨lp, lg, lf, lr, la, ln, lm, ly⟩ := hL
  have hn := H.1.n.2
  obtain ⟨q1, q2, q3, q4, q5⟩ := H.1.ag hi
  have hw := C_woken (F := F) (Z := Z) H hi
  rw [f_L_isAnswered]
  by_cases hiw : i < yw (vy w)
  · rw [if_pos hiw] at hw
    refine RPx.tk hw (fun s1 c1 d1 d2 => ?_)
    dsimp only
    have hq5 : 1 ≤ xp (ya (vy w)) i ∧ xp (ya (vy w)) i ≤ vn w ∧ xu (ya (vy w)) i ≤ yh (vy w) := by
      rcases q5 with q5 | q5
      · exact q5.2
      · omega
    have eA := la i (by omega)
    rw [if_pos hi] at eA
    rw [if_neg (nn0 (by omega)), ix_io (show i < 64 by omega) (by decide), Option.bind_some, c1.2 44 (by decide), eA]
    by_cases ha : xa (ya (vy w)) i = 1
    · rw [ha, if_pos (show io 1 = 1 from rfl)]
      exact (B21 c1 hI0 hi (Or.inr ha) (by omega) _).le (by omega)
    · have ha0 : xa (ya (vy w)) i = 0 := by omega
      rw [ha0, if_neg (show ¬ io 0 = 1 by decide)]
      refine RPx.tk (C_alarm (F := F) (Z := Z) c1 hi) (fun s2 c2 d3 d4 => ?_)
      dsimp only
      obtain ⟨q, hq⟩ : ∃ q, q = xq (ya (vy w)) i := ⟨_, rfl⟩
      obtain ⟨p, hp⟩ : ∃ p, p = xp (ya (vy w)) i - 1 := ⟨_, rfl⟩
      have hR := H.1.r.2
      rw [← hq] at q1
      have ed : io (10000 * q + xt (ya (vy w)) i) / 10000 = io q := by
        have : io (10000 * q + xt (ya (vy w)) i) / io 10000 = io ((10000 * q + xt (ya (vy w)) i) / 10000) := io_div (by omega) (by decide)
        rw [show (10000 * q + xt (ya (vy w)) i) / 10000 = q by omega] at this; exact this
      have e12 : (12 : Int32) * io q = io (12 * q) := io_mul 12 q
      have er := (lr.1 q q1).1
      obtain ⟨o, ho⟩ : ∃ o, o = uo (yu (vy w) q) := ⟨_, rfl⟩
      have hon : o < vn w := by rw [ho]; exact (H.1.ru.2.1.2.1 q q1).2.2.1
      have hpn : p < vn w := by omega
      rw [← ho] at er
      rw [← hq, ed, e12, ix_io (show 12 * q < 48 by omega) (by decide), Option.bind_some, c2.2 42 (by decide), er, ← hp]
      refine RPx.tk (C_owes (F := F) (Z := Z) hF c2 hon hpn) (fun s3 c3 d5 d6 => ?_)
      dsimp only
      obtain ⟨ow, how⟩ : ∃ ow, ow = owe (yg (vy w)) (yd (vy w)) o p := ⟨_, rfl⟩
      rw [← how]
      -- no debt
      have no : ∀ s4, CL s4 w A → ct s4 ≤ ct s → ¬ (v = 1 ∧ xu (ya (vy w)) i / 8 % 3 = 0 ∧ o ≠ p) → RPx (f_L_isAnswered_b111 F Z s4 (io i) (io v) (io p) (io o) (io ow) 0) 1 s4 (ct s + 1) (IVx (c + 1)) := fun s4 c4 d7 hno => by
        rw [f_L_isAnswered_b111, ix_io (show i < 64 by omega) (by decide), Option.bind_some, lt_def, show (ix 4 3 : Option Nat) = some 3 from rfl, Option.bind_some, if_pos rfl, Option.bind_some, lt_def]
        have w1 := c4.wA (k := 44) (by decide) i 1
        have e39 : gA (sA s4 44 i 1) 39 3 = io (yd (vy w)) := by
          rw [w1.2 39 (by decide), upA_ne _ (by decide)]; exact lp.2.2.2
        have w2 := w1.wA (k := 39) (by decide) 3 (gA (sA s4 44 i 1) 39 3 + 0)
        rw [e39, show io (yd (vy w)) + 0 = io (yd (vy w)) from Int32.add_zero _] at w2 ⊢
        obtain ⟨s5, hs5⟩ : ∃ s5, s5 = sA (sA s4 44 i 1) 39 3 (io (yd (vy w))) := ⟨_, rfl⟩
        rw [← hs5] at w2 ⊢
        have hct : ct s5 = ct s4 := by rw [hs5]; rfl
        obtain ⟨B, hB⟩ : ∃ B, B = upA (upA A 44 (ups (A 44) i 1)) 39 (ups (upA A 44 (ups (A 44) i 1) 39) 3 (io (yd (vy w)))) := ⟨_, rfl⟩
        rw [← hB] at w2
        have b39 : ∀ k, B 39 k = A 39 k := fun k => by
          rw [hB, upA_self, upA_ne _ (by decide)]
          unfold ups
          by_cases h : k = 3
          · rw [if_pos h, h]; exact lp.2.2.2.symm
          · rw [if_neg h]
        have b44 : B 44 = ups (A 44) i 1 := by rw [hB, upA_ne _ (by decide), upA_self]
        have bo : ∀ k, k ≠ 39 → k ≠ 44 → B k = A k := fun k h1 h2 => by rw [hB, upA_ne _ h1, upA_ne _ h2]
        have fin : ∀ vx : Int32, (vx = io 0 ∨ vx = io 1) → ¬ (vx = io 1 ∧ xu (ya (vy w)) i / 8 % 3 = 0 ∧ uo (yu (vy w) (xq (ya (vy w)) i)) ≠ xp (ya (vy w)) i - 1) → RPx (f_L_isAnswered_b149 F Z s5 (io p) (io o) (io ow) 0 8 (io i) vx) 1 s5 (ct s + 1) (IVx (c + 1)) := fun vx vv hvv => by
          rw [f_L_isAnswered_b149]
          refine RPx.cal (A_answer (F := F) (Z := Z) w2 hi hiw ha0 vv hvv) (by omega) (fun s6 c6 d8 d9 => ?_)
          dsimp only
          rw [show (ix 4 3 : Option Nat) = some 3 from rfl, Option.bind_some, c6.2 39 (by decide), b39, lp.2.2.2, if_pos rfl]
          have ho6 := C_owes (F := F) (Z := Z) hF c6 (a := o) (b := p) hon hpn
          have eo : owe (yg (vy ((yan (vy w) i, vL w, vm w, vn w, vR w, vt w, vk w) : WD))) (yd (vy ((yan (vy w) i, vL w, vm w, vn w, vR w, vt w, vk w) : WD))) o p = ow := how.symm
          rw [eo] at ho6
          refine RPx.tk ho6 (fun s7 c7 d10 d11 => ?_)
          dsimp only
          rw [if_pos rfl, show io ow + 0 = io ow from Int32.add_zero _, if_pos rfl]
          refine RPx.ret c7 ⟨⟨⟨(b39 0).trans lp.1, (b39 1).trans lp.2.1, (b39 2).trans lp.2.2.1, (b39 3).trans lp.2.2.2⟩, ?_, ?_, ?_, ANx la (by omega) b44 hi rfl rfl, ln.ans i, lm, ly⟩, Nat.le_succ_of_le hd, h63⟩ (by omega)
          · unfold GH; rw [bo 40 (by decide) (by decide)]; exact lg
          · unfold AFx; rw [bo 41 (by decide) (by decide)]; exact lf
          · unfold ARx; rw [bo 42 (by decide) (by decide)]; exact lr
        refine RPx.mv (s := s5) ?_ hct.symm
        rcases (by omega : v = 0 ∨ v = 1) with rfl | rfl
        · rw [if_pos (show io 0 = 0 from rfl)]
          exact fin 0 (Or.inl rfl) (fun h => absurd h.1 (by decide))
        · rw [if_neg (show ¬ io 1 = 0 by decide)]
          exact fin 1 (Or.inr rfl) (fun h => hno ⟨rfl, h.2.1, by rw [ho, hp, hq]; exact h.2.2⟩)
      by_cases hv0 : v = 0
      · subst hv0
        rw [if_pos (show io 0 = 0 from rfl)]
        exact no s3 c3 (by omega) (fun h => absurd h.1 (by decide))
      · have hv1 : v = 1 := by omega
        subst hv1
        rw [if_neg (show ¬ io 1 = 0 by decide)]
        by_cases hop : o = p
        · rw [if_pos (by rw [hop])]
          exact no s3 c3 (by omega) (fun h => h.2.2 hop)
        · rw [if_neg (show ¬ io o = io p by rw [io_eq (by omega) (by omega)]; exact hop)]
          have e8 : io (xu (ya (vy w)) i) / 8 = io (xu (ya (vy w)) i / 8) := io_div (by omega) (b := 8) (by decide)
          have e3 : io (xu (ya (vy w)) i / 8) - io (xu (ya (vy w)) i / 8) / 3 * 3 = io (xu (ya (vy w)) i / 8 % 3) := md9 3 (by omega) (by omega)
          refine RPx.tk (C_wokenAt (F := F) (Z := Z) c3 hi hiw) (fun s4 c4 d7 d8 => ?_)
          dsimp only
          rw [e8, e3]
          by_cases hni : xu (ya (vy w)) i / 8 % 3 = 0
          · rw [if_pos (show io (xu (ya (vy w)) i / 8 % 3) = 0 by rw [hni]; rfl), f_L_isAnswered_b111, ix_io (show i < 64 by omega) (by decide), Option.bind_some, lt_def, show (ix 4 3 : Option Nat) = some 3 from rfl, Option.bind_some, if_neg (show ¬ (1 : Int32) = 0 by decide), Option.bind_some, lt_def]
            have w1 := c4.wA (k := 44) (by decide) i 1
            have e39 : gA (sA s4 44 i 1) 39 3 = io (yd (vy w)) := by
              rw [w1.2 39 (by decide), upA_ne _ (by decide)]; exact lp.2.2.2
            have w2 := w1.wA (k := 39) (by decide) 3 (gA (sA s4 44 i 1) 39 3 + 1)
            rw [e39, show io (yd (vy w)) + 1 = io (yd (vy w) + 1) from io_add _ _] at w2 ⊢
            obtain ⟨s5, hs5⟩ : ∃ s5, s5 = sA (sA s4 44 i 1) 39 3 (io (yd (vy w) + 1)) := ⟨_, rfl⟩
            rw [← hs5] at w2 ⊢
            have hct : ct s5 = ct s4 := by rw [hs5]; rfl
            obtain ⟨B, hB⟩ : ∃ B, B = upA (upA A 44 (ups (A 44) i 1)) 39 (ups (upA A 44 (ups (A 44) i 1) 39) 3 (io (yd (vy w) + 1))) := ⟨_, rfl⟩
            rw [← hB] at w2
            have b39 : ∀ k, k ≠ 3 → B 39 k = A 39 k := fun k hk => by
              rw [hB, upA_self, upA_ne _ (by decide)]
              unfold ups
              rw [if_neg hk]
            have b393 : B 39 3 = io (yd (vy w) + 1) := by rw [hB, upA_self]; unfold ups; rw [if_pos rfl]
            have b44 : B 44 = ups (A 44) i 1 := by rw [hB, upA_ne _ (by decide), upA_self]
            have bo : ∀ k, k ≠ 39 → k ≠ 44 → B k = A k := fun k h1 h2 => by rw [hB, upA_ne _ h1, upA_ne _ h2]
            refine RPx.mv (s := s5) ?_ hct.symm
            rw [if_neg (show ¬ io 1 = 0 by decide), f_L_isAnswered_b149]
            have hown : uo (yu (vy w) (xq (ya (vy w)) i)) ≠ xp (ya (vy w)) i - 1 := by rw [← hq, ← ho, ← hp]; exact hop
            have hans := A_answer_d (F := F) (Z := Z) w2 hi hiw ha0 (by omega) hni hown
            rw [← hq, ← ho, ← hp] at hans
            refine RPx.cal hans (by omega) (fun s6 c6 d8 d9 => ?_)
            dsimp only
            rw [show (ix 4 3 : Option Nat) = some 3 from rfl, Option.bind_some, c6.2 39 (by decide), b393, if_pos rfl]
            have ho6 := C_owes (F := F) (Z := Z) hF c6 (a := o) (b := p) hon hpn
            have eo : owe (yg (vy ((yow (vy w) i o p, vL w, vm w, vn w, vR w, vt w, vk w) : WD))) (yd (vy ((yow (vy w) i o p, vL w, vm w, vn w, vR w, vt w, vk w) : WD))) o p = ow + 1 := by
              show owe (gowe (yg (vy w)) (yd (vy w)) o p) (yd (vy w) + 1) o p = _
              unfold owe
              show cnt (fun k => decide (ups (gda (yg (vy w))) (yd (vy w)) o k = o ∧ ups (gdb (yg (vy w))) (yd (vy w)) p k = p)) (yd (vy w)) + (if decide (ups (gda (yg (vy w))) (yd (vy w)) o (yd (vy w)) = o ∧ ups (gdb (yg (vy w))) (yd (vy w)) p (yd (vy w)) = p) = true then 1 else 0) = _
              have e1 : cnt (fun k => decide (ups (gda (yg (vy w))) (yd (vy w)) o k = o ∧ ups (gdb (yg (vy w))) (yd (vy w)) p k = p)) (yd (vy w)) = ow := by
                rw [how]; unfold owe
                exact cnt_ext fun k hk => by unfold ups; rw [if_neg (by omega), if_neg (by omega)]
              rw [e1]; simp [ups]
            rw [eo] at ho6
            refine RPx.tk ho6 (fun s7 c7 d10 d11 => ?_)
            dsimp only
            rw [if_neg (show ¬ (1 : Int32) = 0 by decide), show io ow + 1 = io (ow + 1) from io_add _ _, if_pos rfl]
            refine RPx.ret c7 ⟨⟨⟨(b39 0 (by decide)).trans lp.1, (b39 1 (by decide)).trans lp.2.1, (b39 2 (by decide)).trans lp.2.2.1, b393⟩, ?_, ?_, ?_, ANx la (by omega) b44 hi rfl rfl, ln.owe hop, lm, ly⟩, Nat.succ_le_succ hd, h63⟩ (by omega)
            · unfold GH; rw [bo 40 (by decide) (by decide)]; exact lg
            · unfold AFx; rw [bo 41 (by decide) (by decide)]; exact lf
            · unfold ARx; rw [bo 42 (by decide) (by decide)]; exact lr
          · rw [if_neg (nz0 (by omega) hni)]
            exact no s4 c4 (by omega) (fun h => hni h.2.1)
  · rw [if_neg hiw] at hw
    refine RPx.tk hw (fun s1 c1 d1 d2 => ?_)
    dsimp only
    rw [if_pos neg_lits.2.2.1]
    exact (B21 c1 hI0 hi (Or.inl hiw) (by omega) _).le (by omega)
end AW
