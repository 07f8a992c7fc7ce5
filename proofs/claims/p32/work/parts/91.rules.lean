/-! drops, rules, and the loop itself -/
section LE9
variable {L : Nat} {xs : Nat → Int32} {F Z : Nat} {s : St} {w : WD} {A : LA} {n X v : Nat} {K : St → Int32 → Int32 → Option (Int32 × St)}
/-- the law's note of a drop -/
theorem AR_drop {A B : LA} {w : WD} (hA : ARx A w) {q : Nat} {b : Nat} {x : RU} (h5 : ∀ r, r < vR w → (us (yu (vy w) r)).length ≤ 5) (hB : ∀ k, B 42 k = if k = 12 * q + 3 then io b else A 42 k) (hx : uo x = uo (yu (vy w) q) ∧ uw x = uw (yu (vy w) q) ∧ ur x = ur (yu (vy w) q) ∧ us x = us (yu (vy w) q)) (hb : b = if ud x = 0 then 0 else 1) (hq : q < vR w) {w' : WD} (h1 : yu (vy w') = ups (yu (vy w)) q x) (h2 : vR w' = vR w) : ARx B w' := by
  refine ⟨fun r hr => ?_, fun r hr hr4 => ?_⟩
  · rw [h2] at hr
    rw [h1]
    unfold ups
    by_cases hrq : r = q
    · rw [if_pos hrq, hrq]
      obtain ⟨k1, k2, k3, k4, k5, k6⟩ := hA.1 q hq
      obtain ⟨x1, x2, x3, x4⟩ := hx
      refine ⟨?_, ?_, ?_, ?_, ?_, ?_⟩
      · rw [hB, if_neg (by omega), x1]; exact k1
      · rw [hB, if_neg (by omega), x2]; exact k2
      · rw [hB, if_neg (by omega), x3]; exact k3
      · rw [hB, if_pos rfl, hb]
      · rw [hB, if_neg (by omega), x4]; exact k5
      · rw [x4]
        intro i hi
        rw [hB, if_neg (by omega)]; exact k6 i hi
    · rw [if_neg hrq]
      exact arr_ru (hA.1 r hr) (fun i hi => by rw [hB, if_neg (by omega)]) (h5 r hr)
  · rw [h2] at hr
    rw [hB, hB, if_neg (by omega), if_neg (by omega)]
    exact hA.2 r hr hr4
theorem M573 (hB : BOK L xs F Z n X v K) (hn : n < 100) (hZ : 9000 ≤ Z) (hF : 5000 ≤ F) (hv : v < 100000000) (H : CL s w A) (hI : IVx n w A) (hc : ct s ≤ Cn n) {p : Nat} (hp : p < vn w) {how : Nat} (hh : how < 32) : RPx (f_L_law_b573 L xs F Z K s 1 (io n) (io X) (io v) (io how) (io (yh (vy w) / 8)) (io p)) 1 s 9000 TTx := by
  have hCn := Cn_le (n := n) (by omega)
  have h705 := M705 (L := L) (xs := xs) (K := K) hB hn hZ hF hv H hI hc hp hh
  obtain ⟨⟨lp, lg, lf, lr, la, ln, lm, ly⟩, hd, h63⟩ := hI
  have hR := H.1.r.2
  have h5 : ∀ r, r < vR w → (us (yu (vy w) r)).length ≤ 5 := fun r hr => (H.1.ru.2.1.2.1 r hr).2.2.2.2.2.2.2.2.1
  have g15 : (io how = (15 : Int32)) = (how = 15) := io_eq (by omega) (by decide)
  rw [f_L_law_b573]
  by_cases h15 : how = 15
  · rw [if_pos (by rw [g15]; exact h15), show (ix 4 1 : Option Nat) = some 1 from rfl, Option.bind_some, H.2 39 (by decide), lp.2.1]
    simp only [le0 (show vR w < 2147483648 by omega)]
    by_cases hz : vR w ≤ 0
    · rw [if_pos hz]; exact h705
    · have hR0 : vR w ≠ 0 := by omega
      have hq := Nat.mod_lt v (show vR w > 0 by omega)
      obtain ⟨q, hqe⟩ : ∃ q, q = v % vR w := ⟨_, rfl⟩
      have e12 : (12 : Int32) * io q = io (12 * q) := io_mul 12 q
      have e3 : io (12 * q) + 3 = io (12 * q + 3) := io_add _ _
      have e33 : io v - io v / 3 * 3 = io (v % 3) := md9 3 (by omega) (by omega)
      have m3 := Nat.mod_lt v (show 3 > 0 by decide)
      rw [if_neg hz, Option.bind_some, if_neg (by rw [lp.2.1]; exact nz0 (by omega) hR0), lp.2.1, vmod hv hR, ← hqe, e12, e3, ix_io (show 12 * q + 3 < 48 by omega) (by decide), Option.bind_some, H.2 42 (by decide), (lr.1 q (by omega)).2.2.2.1]
      rw [← hqe] at hq
      -- from the note on
      have note : ∀ (s1 : St) (t0 : Int32) (b0 : Nat) (w1 : WD) (A1 : LA), CL s1 w1 A1 → ct s1 ≤ Cn n + 1 → b0 ≤ 1 → (v % 3 = 0 ∨ t0 = -1243 → b0 = 1) → (¬ (v % 3 = 0 ∨ t0 = -1243) → b0 = 0) → (∀ B : LA, B = upA A1 42 (ups (A1 42) (12 * q + 3) (io b0)) → IVx (n + 1) w1 B) → RPx (f_L_law_b673 L xs F Z K s1 (io n) (io X) (io v) (io (12 * q)) t0 1) 1 s1 9000 TTx := fun s1 t0 b0 w1 A1 c1 d1 hb hb1 hb0 hIB => by
        have c2 := c1.wA (k := 42) (by decide) (12 * q + 3) (io b0)
        rw [f_L_law_b673, e33, e3]
        have go : ∀ b : Int32, b = io b0 → RPx ((ix 48 (io (12 * q + 3))).bind fun j64 => (lt (sA s1 42 j64 b) fun s65 => (f_L_law_b1098 L xs F Z K s65 1 (io n) (io X) (io v)))) 1 s1 9000 TTx := fun b hbb => by
          rw [ix_io (show 12 * q + 3 < 48 by omega) (by decide), Option.bind_some, lt_def, hbb]
          exact RPx.mv (hB _ w1 _ c2 (hIB _ rfl) (show ct s1 ≤ Cn n + 60 by omega)) rfl
        by_cases h3 : v % 3 = 0
        · rw [if_pos (show io (v % 3) = 0 by rw [h3]; rfl)]
          exact go 1 (by rw [hb1 (Or.inl h3)]; rfl)
        · rw [if_neg (nz0 (by omega) h3)]
          by_cases ht : t0 = -1243
          · rw [if_pos ht]; exact go 1 (by rw [hb1 (Or.inr ht)]; rfl)
          · rw [if_neg ht]; exact go 0 (by rw [hb0 (fun c => c.elim h3 ht)]; rfl)
      have b624 : ∀ (s1 : St) (t0 : Int32), CL s1 w A → ct s1 ≤ Cn n → ((ud (yu (vy w) q) ≠ 0 ∧ t0 = -1243) ∨ (ud (yu (vy w) q) = 0 ∧ t0 = io (un (yu (vy w) q)))) → RPx (f_L_law_b624 L xs F Z K s1 (io n) (io X) (io v) (io (12 * q)) t0) 1 s1 9000 TTx := fun s1 t0 c1 d1 ht => by
        have c2 := c1.wA (k := 42) (by decide) (12 * q + 3) 1
        obtain ⟨s2, hs2⟩ : ∃ s2, s2 = sA s1 42 (12 * q + 3) 1 := ⟨_, rfl⟩
        obtain ⟨A1, hA1⟩ : ∃ A1, A1 = upA A 42 (ups (A 42) (12 * q + 3) 1) := ⟨_, rfl⟩
        rw [← hs2, ← hA1] at c2
        have hct : ct s2 = ct s1 := by rw [hs2]; rfl
        have a39 : A1 39 = A 39 := by rw [hA1]; exact upA_ne _ (by decide)
        have ao : ∀ k, k ≠ 42 → A1 k = A k := fun k hk => by rw [hA1]; exact upA_ne _ hk
        have a42 : ∀ (b0 : Nat) (B : LA), B = upA A1 42 (ups (A1 42) (12 * q + 3) (io b0)) → (∀ k, B 42 k = if k = 12 * q + 3 then io b0 else A 42 k) ∧ ∀ k, k ≠ 42 → B k = A k := fun b0 B hBB => by
          refine ⟨fun k => ?_, fun k hk => ?_⟩
          · rw [hBB, upA_self, hA1, upA_self]
            unfold ups
            by_cases hk : k = 12 * q + 3
            · rw [if_pos hk, if_pos hk]
            · rw [if_neg hk, if_neg hk, if_neg hk]
          · rw [hBB, upA_ne _ hk]; exact ao k hk
        have hun : ∀ b, io (un (yu (vy w) q)) = -1243 → b := fun b hb => by
          have := (H.1.ru.2.1.2.1 q hq).2.2.2.2.2.2.2.2.2.2.2.2
          have h1 : (io (un (yu (vy w) q))).toInt = (-1243 : Int32).toInt := by rw [hb]
          rw [io_toInt (by omega)] at h1
          have h2 : (-1243 : Int32).toInt = -1243 := by decide
          omega
        -- what is known behind, the rule as it is
        have same : ∀ (b0 : Nat), b0 = (if ud (yu (vy w) q) = 0 then 0 else 1) → ∀ B : LA, B = upA A1 42 (ups (A1 42) (12 * q + 3) (io b0)) → IVx (n + 1) w B := fun b0 hb0 B hBB => by
          obtain ⟨k1, k2⟩ := a42 b0 B hBB
          refine ⟨⟨?_, ?_, ?_, AR_drop lr h5 k1 (x := yu (vy w) q) ⟨rfl, rfl, rfl, rfl⟩ hb0 hq (by
            funext r
            unfold ups
            by_cases c : r = q
            · rw [if_pos c, c]
            · rw [if_neg c]) rfl, ?_, ln, lm, ly⟩, Nat.le_succ_of_le hd, h63⟩
          · unfold APx; rw [k2 39 (by decide)]; exact lp
          · unfold GH; rw [k2 40 (by decide)]; exact lg
          · unfold AFx; rw [k2 41 (by decide)]; exact lf
          · unfold AAx; rw [k2 44 (by decide)]; exact la
        rw [f_L_law_b624, e3, ix_io (show 12 * q + 3 < 48 by omega) (by decide), Option.bind_some, lt_def, ← hs2]
        refine RPx.mv (s := s2) ?_ hct.symm
        rw [e33]
        by_cases h3 : v % 3 = 0
        · rw [if_pos (show io (v % 3) = 0 by rw [h3]; rfl), show (ix 4 1 : Option Nat) = some 1 from rfl, Option.bind_some, c2.2 39 (by decide), a39, lp.2.1, if_neg (nz0 (by omega) hR0), vmod hv hR, ← hqe]
          rcases ht with ⟨hu, ht⟩ | ⟨hu, ht⟩
          · refine RPx.cal (A_drop_x1 (F := F) (Z := Z) hF c2 (by omega) hq hu) (by omega) (fun s3 c3 d2 d3 => ?_)
            dsimp only
            rw [if_pos ht.symm]
            exact note s3 t0 1 w A1 c3 (by omega) (by decide) (fun _ => rfl) (fun c => absurd (Or.inl h3) c) (same 1 (by rw [if_neg hu]))
          · refine RPx.cal (A_drop (F := F) (Z := Z) hF c2 hq hu) (by omega) (fun s3 c3 d2 d3 => ?_)
            dsimp only
            rw [if_pos ht.symm]
            refine note s3 t0 1 _ A1 c3 (by omega) (by decide) (fun _ => rfl) (fun c => absurd (Or.inl h3) c) (fun B hBB => ?_)
            obtain ⟨k1, k2⟩ := a42 1 B hBB
            refine ⟨⟨?_, ?_, ?_, AR_drop lr h5 k1 (x := uDrop (yu (vy w) q) (yh (vy w))) ⟨rfl, rfl, rfl, rfl⟩ (by
              have : ¬ ud (uDrop (yu (vy w) q) (yh (vy w))) = 0 := by show ¬ yh (vy w) + 1 = 0; omega
              rw [if_neg this]) hq rfl rfl, ?_, GN.rule ln rfl rfl rfl, lm, ly⟩, Nat.le_succ_of_le hd, h63⟩
            · unfold APx; rw [k2 39 (by decide)]; exact lp
            · unfold GH; rw [k2 40 (by decide)]; exact lg
            · unfold AFx; rw [k2 41 (by decide)]; exact lf
            · unfold AAx; rw [k2 44 (by decide)]; exact la
        · rw [if_neg (nz0 (by omega) h3)]
          simp only [le0 (show v % 3 < 2147483648 by omega)]
          rw [if_neg (show ¬ v % 3 ≤ 0 by omega)]
          rcases ht with ⟨hu, ht⟩ | ⟨hu, ht⟩
          · exact note s2 t0 1 w A1 c2 (by omega) (by decide) (fun _ => rfl) (fun c => absurd (Or.inr ht) c) (same 1 (by rw [if_neg hu]))
          · exact note s2 t0 0 w A1 c2 (by omega) (by decide) (fun c => c.elim (fun c => absurd c h3) (fun c => hun _ (by rw [← ht]; exact c))) (fun _ => rfl) (same 0 (by rw [if_pos hu]))
      by_cases hu : ud (yu (vy w) q) = 0
      · rw [if_pos hu, if_neg (show ¬ io 0 = 1 by decide), Option.bind_some, lp.2.1, if_neg (nz0 (by omega) hR0), vmod hv hR, ← hqe]
        refine RPx.tk (C_rises (F := F) (Z := Z) H hq) (fun s1 c1 d1 d2 => ?_)
        dsimp only
        exact b624 s1 _ c1 (by omega) (Or.inr ⟨hu, rfl⟩)
      · rw [if_neg hu, if_pos (show io 1 = 1 from rfl)]
        exact b624 s (-1243) H hc (Or.inl ⟨hu, rfl⟩)
  · rw [if_neg (by rw [g15]; exact h15)]; exact h705
/-- a value that a rule asks for is not what the law takes for an error -/
theorem val_ne (H : CV s w) (hm : vm w ≤ 60) {a b kind f x way : Nat} : aggv (wev w a b) (kch kind) f (chx x way) ≠ -77777 := by
  have h1 := wev_ok H (a := a) (b := b) f (chB (chx x way))
  obtain ⟨vs, hvs⟩ : ∃ vs, vs = ((wev w a b).filter (chB (chx x way))).map (fld f) := ⟨_, rfl⟩
  have h2 : vs.length ≤ 60 := by
    rw [hvs, List.length_map]
    have h3 := List.length_filter_le (chB (chx x way)) (wev w a b)
    have h4 := wev_len H (a := a) (b := b)
    have h5 := cnt_le (fun k => decide (a ≤ rH (vL w k) ∧ rH (vL w k) ≤ b)) (vm w)
    omega
  have hv := h1.1
  rw [← hvs] at hv
  show vag (kch kind) (((wev w a b).filter (chB (chx x way))).map (fld f)) ≠ -77777
  rw [← hvs]
  intro hc
  have hi : (vag (kch kind) vs).toInt = -77777 := by rw [hc]; decide
  by_cases h0 : vs.length = 0
  · have hl : vs = [] := List.length_eq_zero_iff.mp h0
    subst hl
    have : vag (kch kind) [] = 0 := by unfold kch; (repeat' split) <;> decide
    rw [this] at hi
    exact absurd hi (by decide)
  · obtain ⟨lo, hi9, mo, sm, un, e1, e2, e3, e4, e5, b1, b2, b3, b4, b5, b6, b7, b8, b9, b10⟩ := agg_ok h0 hv (by omega)
    have hs := (vs_sum vs hv (by omega)).2
    have hs2 : (vag 115 vs).toInt = vS vs := (vs_sum vs hv (by omega)).1
    have hlen : (vag 110 vs).toInt = (vs.length : Int) := l_io (by omega)
    unfold kch at hi
    split at hi
    · omega
    · split at hi
      · rw [hs2] at hi; omega
      · split at hi
        · omega
        · split at hi
          · omega
          · split at hi <;> omega
theorem M345 (hB : BOK L xs F Z n X v K) (hn : n < 100) (hZ : 9000 ≤ Z) (hF : 5000 ≤ F) (hL9 : L ≤ 260) (hv : v < 100000000) (H : CL s w A) (hI : IVx n w A) (hc : ct s ≤ Cn n) {p : Nat} (hp : p < vn w) {how : Nat} (hh : how < 32) : RPx (f_L_law_b345 L xs F Z K s 1 (io n) (io X) (io v) (io how) (io (yh (vy w) / 8)) (io p)) 1 s 9000 TTx := by
  have hCn := Cn_le (n := n) (by omega)
  have h573 := M573 (L := L) (xs := xs) (K := K) hB hn hZ hF hv H hI hc hp hh
  have hI0 := hI
  obtain ⟨⟨lp, lg, lf, lr, la, ln, lm, ly⟩, hd, h63⟩ := hI
  have hR := H.1.r.2
  have g10 : ((10 : Int32) ≤ io how) = (10 ≤ how) := io_le (by decide) (by omega)
  have g12 : ((12 : Int32) ≤ io how) = (12 ≤ how) := io_le (by decide) (by omega)
  have g15 : ((15 : Int32) ≤ io how) = (15 ≤ how) := io_le (by decide) (by omega)
  rw [f_L_law_b345]
  by_cases h10 : 10 ≤ how
  · rw [if_pos (by rw [g10]; exact h10)]
    by_cases h12 : 12 ≤ how
    · rw [if_pos (by rw [g12]; exact h12)]
      by_cases h15 : 15 ≤ how
      · rw [if_pos (by rw [g15]; exact h15)]; exact h573
      · rw [if_neg (by rw [g15]; exact h15), show (ix 4 1 : Option Nat) = some 1 from rfl, Option.bind_some, H.2 39 (by decide), lp.2.1]
        by_cases h4 : 4 ≤ vR w
        · rw [if_pos (show (4 : Int32) ≤ io (vR w) from by
            show io 4 ≤ io (vR w)
            rw [io_le (by decide) (by omega)]; exact h4)]
          exact h573
        · rw [if_neg (show ¬ (4 : Int32) ≤ io (vR w) from by
            show ¬ io 4 ≤ io (vR w)
            rw [io_le (by decide) (by omega)]; exact h4)]
          refine RPx.pl (W_now (F := F) H.1) H (fun s1 c1 d1 => ?_)
          dsimp only
          have m6 := Nat.mod_lt v (show 6 > 0 by decide)
          have m4 := Nat.mod_lt (v / 6) (show 4 > 0 by decide)
          have m3 := Nat.mod_lt (v / 24) (show 3 > 0 by decide)
          have e1 : io v - io v / 6 * 6 = io (v % 6) := md9 6 (by omega) (by omega)
          have e2 : io v / 6 - io v / 6 / 4 * 4 = io (v / 6 % 4) := by
            have h1 : io v / 6 = io (v / 6) := io_div (by omega) (b := 6) (by decide)
            rw [h1]; exact md9 4 (by omega) (by omega)
          have e3 : io v / 24 = io (v / 24) := io_div (by omega) (b := 24) (by decide)
          have e4 : io (v / 24) - io (v / 24) / 3 * 3 = io (v / 24 % 3) := md9 3 (by omega) (by omega)
          rw [e2, e1, e3, e4]
          have hval := V_value (F := F) (Z := Z) (kind := v % 6) (field := v / 6 % 4) (x := v / 24) (way := v / 24 % 3) (a := 0) (b := yh (vy w)) hF c1 m3 (by omega) m6 m4 (Nat.zero_le _) (Nat.le_refl _) (by omega)
          obtain ⟨tv9, htv⟩ : ∃ t, t = aggv (wev w 0 (yh (vy w))) (kch (v % 6)) (if v % 6 = 0 then 0 else fch (v / 6 % 4)) (chx (v / 24) (v / 24 % 3)) := ⟨_, rfl⟩
          have hne : tv9 ≠ -77777 := by rw [htv]; exact val_ne H.1 lm
          rw [← htv] at hval
          refine RPx.cal hval (by omega) (fun s2 c2 d2 d3 => ?_)
          dsimp only
          obtain ⟨l9, hl9⟩ : ∃ l, l = vtx (v % 6) (v / 6 % 4) (v / 24) (v / 24 % 3) := ⟨_, rfl⟩
          have hqq := vtx_q (v % 6) (v / 6 % 4) (v / 24) (v / 24 % 3)
          rw [← hl9] at c2 hqq
          obtain ⟨R, hRe⟩ : ∃ R, R = vR w := ⟨_, rfl⟩
          have e12 : (12 : Int32) * io R = io (12 * R) := io_mul 12 R
          have f1 : io (12 * R) + 1 = io (12 * R + 1) := io_add _ _
          have f2 : io (12 * R) + 2 = io (12 * R + 2) := io_add _ _
          rw [Option.bind_some, c2.2 39 (by decide), lp.2.1, ← hRe, e12, f1, ix_io (show 12 * R < 48 by omega) (by decide), Option.bind_some, lt_def]
          -- the row of the new rule
          have rest : ∀ (t4 t3 : Nat), (t4 = 72 ∨ t4 = 12) → (t3 = 73 ∨ t3 = 10) → (io v - io v / 5 * 5 = 0 → t3 = 73) → (¬ io v - io v / 5 * 5 = 0 → t3 = 10) → RPx (f_L_law_b486 L xs F Z K (sA s2 42 (12 * R) (io p)) (io n) (io X) (io v) (io p) tv9 (io (12 * R)) (io (12 * R + 1)) 1 (io v / 8) (io t4)) 1 s2 9000 TTx := fun t4 t3 h4' h3' k73 k10 => by
            obtain ⟨y1, hy1⟩ : ∃ y, y = 1 + v / 8 % t4 := ⟨_, rfl⟩
            obtain ⟨y2, hy2⟩ : ∃ y, y = v / 600 % t3 := ⟨_, rfl⟩
            have b1 := Nat.mod_lt (v / 8) (show t4 > 0 by omega)
            have b2 := Nat.mod_lt (v / 600) (show t3 > 0 by omega)
            have g1 : (1 : Int32) + (io v / 8 - io v / 8 / io t4 * io t4) = io y1 := by
              have h1 : io v / 8 = io (v / 8) := io_div (by omega) (b := 8) (by decide)
              have h2 : io (v / 8) - io (v / 8) / io t4 * io t4 = io (v / 8 % t4) := md9 t4 (by omega) (by omega)
              rw [h1, h2, hy1]; exact io_add 1 _
            have g2 : io v / 600 = io (v / 600) := io_div (by omega) (b := 600) (by decide)
            have g3 : io (v / 600) - io (v / 600) / io t3 * io t3 = io y2 := by rw [hy2]; exact md9 t3 (by omega) (by omega)
            have w1 := c2.wA (k := 42) (by decide) (12 * R) (io p)
            have w2 := w1.wA (k := 42) (by decide) (12 * R + 1) (io y1)
            have w3 := w2.wA (k := 42) (by decide) (12 * R + 2) (io y2)
            have e39 : gA (sA (sA (sA s2 42 (12 * R) (io p)) 42 (12 * R + 1) (io y1)) 42 (12 * R + 2) (io y2)) 39 1 = io R := by
              rw [w3.2 39 (by decide), upA_ne _ (by decide), upA_ne _ (by decide), upA_ne _ (by decide), hRe]; exact lp.2.1
            have w4 := w3.wA (k := 39) (by decide) 1 (io (R + 1))
            obtain ⟨s3, hs3⟩ : ∃ s3, s3 = sA (sA (sA (sA s2 42 (12 * R) (io p)) 42 (12 * R + 1) (io y1)) 42 (12 * R + 2) (io y2)) 39 1 (io (R + 1)) := ⟨_, rfl⟩
            obtain ⟨B, hBe⟩ : ∃ B : LA, (∀ k, B 42 k = if k = 12 * R + 2 then io y2 else if k = 12 * R + 1 then io y1 else if k = 12 * R then io p else A 42 k) ∧ B 39 1 = io (R + 1) ∧ (∀ k, k ≠ 1 → B 39 k = A 39 k) ∧ (∀ k, k ≠ 39 → k ≠ 42 → B k = A k) ∧ CL s3 (wtl w l9) B := by
              refine ⟨_, ?_, ?_, ?_, ?_, by rw [hs3]; exact w4⟩
              · intro k
                rw [upA_ne _ (by decide), upA_self, upA_self, upA_self]; rfl
              · rw [upA_self]; rfl
              · intro k hk
                rw [upA_self]
                unfold ups
                rw [if_neg hk, upA_ne _ (by decide), upA_ne _ (by decide), upA_ne _ (by decide)]
              · intro k h1 h2
                rw [upA_ne _ h1, upA_ne _ h2, upA_ne _ h2, upA_ne _ h2]
            obtain ⟨k42, k391, k39, ko, w5⟩ := hBe
            have hct : ct s3 = ct s2 := by rw [hs3]; rfl
            have eR1 : io R + 1 = io (R + 1) := io_add _ _
            have b515 : ∀ t : Int32, t = io t3 → RPx (f_L_law_b515 L xs F Z K (sA (sA s2 42 (12 * R) (io p)) 42 (12 * R + 1) (io y1)) (io n) (io X) (io v) (io p) tv9 (io (12 * R)) (io (12 * R + 2)) (io (v / 600)) t) 1 s2 9000 TTx := fun t ht => by
              rw [f_L_law_b515, ht, if_neg (nz0 (by omega) (show t3 ≠ 0 by omega)), ix_io (show 12 * R + 2 < 48 by omega) (by decide), Option.bind_some, lt_def, g3, show (ix 4 1 : Option Nat) = some 1 from rfl, Option.bind_some, Option.bind_some, lt_def, e39, eR1, ← hs3, if_neg hne, f1, ix_io (show 12 * R + 1 < 48 by omega) (by decide), Option.bind_some, f2, ix_io (show 12 * R + 2 < 48 by omega) (by decide), Option.bind_some, w5.2 42 (by decide), k42, k42, if_pos rfl, if_neg (by omega), if_pos rfl]
              refine RPx.mv (s := s3) ?_ hct.symm
              obtain ⟨q0, hadd⟩ := A_addRule (F := F) (Z := Z) (w := wtl w l9) hF w5 (by omega) (pw := p) (y := y1) (v := y2) hp (by omega) (by omega) (by omega) hqq (by show vR w < 4; omega)
              refine RPx.cal hadd (by omega) (fun s4 c4 d4 d5 => ?_)
              dsimp only
              have e9 : io (R + 1) - 1 = io R := by
                have : io (R + 1) - io 1 = io (R + 1 - 1) := io_sub (by omega)
                exact this
              rw [Option.bind_some, c4.2 39 (by decide), k391, e9, if_pos (show io (vR (wtl w l9)) = io R by rw [hRe]; rfl)]
              refine hB s4 _ B c4 ⟨⟨⟨(k39 0 (by decide)).trans lp.1, by rw [k391, hRe]; rfl, (k39 2 (by decide)).trans lp.2.2.1, (k39 3 (by decide)).trans lp.2.2.2⟩, ?_, ?_, ⟨fun r hr => ?_, fun r hr hr4 => ?_⟩, ?_, GN.made H.1.2.1 ln rfl, lm, ly⟩, Nat.le_succ_of_le hd, h63⟩ (by omega)
              · unfold GH; rw [ko 40 (by decide) (by decide)]; exact lg
              · unfold AFx; rw [ko 41 (by decide) (by decide)]; exact lf
              · have hr9 : r < vR w + 1 := hr
                show rlow (ups (yu (vy w)) (vR w) (unew q0 [vqx (v % 6) (v / 6 % 4) (v / 24) (v / 24 % 3)] p y1 y2 (yh (vy w))) r) (B 42) (12 * r)
                unfold ups
                by_cases hrR : r = vR w
                · rw [if_pos hrR, hrR, ← hRe]
                  have hz := lr.2 (vR w) (Nat.le_refl _) (by omega)
                  rw [← hRe] at hz
                  refine ⟨?_, ?_, ?_, ?_, ?_, fun i hi => absurd hi (Nat.not_lt_zero _)⟩
                  · rw [k42, if_neg (by omega), if_neg (by omega), if_pos rfl]; rfl
                  · rw [k42, if_neg (by omega), if_pos rfl]; rfl
                  · rw [k42, if_pos rfl]; rfl
                  · rw [k42, if_neg (by omega), if_neg (by omega), if_neg (by omega)]; exact hz.1
                  · rw [k42, if_neg (by omega), if_neg (by omega), if_neg (by omega)]; exact hz.2
                · rw [if_neg hrR]
                  have hlr := (H.1.ru.2.1.2.1 r (by omega)).2.2.2.2.2.2.2.2.1
                  exact arr_ru (lr.1 r (by omega)) (fun i hi => by rw [k42, if_neg (by omega), if_neg (by omega), if_neg (by omega)]) hlr
              · have hr9 : vR w + 1 ≤ r := hr
                rw [k42, k42, if_neg (by omega), if_neg (by omega), if_neg (by omega), if_neg (by omega), if_neg (by omega), if_neg (by omega)]
                exact lr.2 r (by omega) hr4
              · unfold AAx; rw [ko 44 (by decide) (by decide)]; exact la
            rw [f_L_law_b486, if_neg (nz0 (by omega) (show t4 ≠ 0 by omega)), ix_io (show 12 * R + 1 < 48 by omega) (by decide), Option.bind_some, lt_def, g1, f2, g2]
            by_cases h5 : io v - io v / 5 * 5 = 0
            · rw [if_pos h5]; exact b515 73 (by rw [k73 h5]; rfl)
            · rw [if_neg h5]; exact b515 10 (by rw [k10 h5]; rfl)
          by_cases h5 : io v - io v / 5 * 5 = 0
          · rw [if_pos h5]
            exact rest 72 73 (Or.inl rfl) (Or.inl rfl) (fun _ => rfl) (fun c => absurd h5 c)
          · rw [if_neg h5]
            exact rest 12 10 (Or.inr rfl) (Or.inr rfl) (fun c => absurd c h5) (fun _ => rfl)
    · rw [if_neg (by rw [g12]; exact h12)]
      refine RPx.cal (V_areValues (F := F) (Z := Z) hF H hv lm lp.2.2.1 lg (by omega)) (by omega) (fun s1 c1 d1 d2 => ?_)
      dsimp only
      exact hB s1 _ A c1 ⟨hI0.1.to (fun _ _ => rfl) rfl rfl rfl rfl rfl, Nat.le_succ_of_le hd, h63⟩ (by omega)
  · rw [if_neg (by rw [g10]; exact h10)]
    have m40 := Nat.mod_lt v (show 40 > 0 by decide)
    have e1 : (300 : Int32) + ((26 : Int32) * (io v - io v / 40 * 40)) = io (300 + 26 * (v % 40)) := by
      have h1 : io v - io v / 40 * 40 = io (v % 40) := md9 40 (by omega) (by omega)
      have h2 : (26 : Int32) * io (v % 40) = io (26 * (v % 40)) := io_mul 26 _
      rw [h1, h2]; exact io_add 300 _
    rw [e1]
    refine RPx.calP (T_isText (F := F) (Z := Z) hL9 hF (show 300 ≤ 300 + 26 * (v % 40) by omega) (by omega) (texts_a _ m40) H (by omega)) (by omega) (fun s1 w1 A1 c1 p1 d1 d2 => ?_)
    dsimp only
    have hLV := hI0.1.tx p1
    obtain ⟨⟨l, rfl⟩, -⟩ := p1
    exact hB s1 _ A1 c1 ⟨hLV, Nat.le_succ_of_le hd, h63⟩ (by omega)
end LE9
