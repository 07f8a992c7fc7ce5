/-! frames where cells are born; windows; questions asked -/
def swD (s' s : St) : St := (gI s', gA s', gL s', gJ s', gR s', gQ s, gD s, sz s')
abbrev FY (eI eA : List Nat) (s s' : St) : Prop := Fr eI eA s (swD s' s)
def FX (eI eA : List Nat) (s s' : St) : Prop := (∀ k, k ∉ eI → gI s' k = gI s k) ∧ (∀ k, k ∉ eA → gA s' k = gA s k) ∧ gQ s' = gQ s ∧ DE s s'
theorem FX.swD {eI eA : List Nat} {s s' : St} (h : FX eI eA s s') : FY eI eA s s' := ⟨h.1, h.2.1, rfl, rfl, h.2.2.2.1⟩
theorem Fr.fx {eI eA : List Nat} {s s' : St} (h : Fr eI eA s s') : FX eI eA s s' := ⟨h.1, h.2.1, h.2.2.1, h.de⟩
theorem Fw.fx {s s' : St} (h : Fw s s') : FX [1537, 1538] [] s s' := ⟨fun k hk => h.1 k (fun e => hk (by rw [e]; decide)) (fun e => hk (by rw [e]; decide)), fun k _ => by rw [h.2.1], h.2.2.2.2.1, h.de⟩
theorem FX.trans {eI eA : List Nat} {s s1 s2 : St} (h : FX eI eA s s1) (h2 : FX eI eA s1 s2) : FX eI eA s s2 := ⟨fun k hk => (h2.1 k hk).trans (h.1 k hk), fun k hk => (h2.2.1 k hk).trans (h.2.1 k hk), h2.2.2.1.trans h.2.2.1, h.2.2.2.trans h2.2.2.2⟩
theorem FX.wide {eI eA eI' eA' : List Nat} {s s1 : St} (h : FX eI eA s s1) (h1 : ∀ k ∈ eI, k ∈ eI') (h2 : ∀ k ∈ eA, k ∈ eA') : FX eI' eA' s s1 := ⟨fun k hk => h.1 k (fun h9 => hk (h1 k h9)), fun k hk => h.2.1 k (fun h9 => hk (h2 k h9)), h.2.2⟩
theorem HH.fy {eI eA : List Nat} {s s' : St} {h : Nat} (H : HH s h) (f : FY eI eA s s') (d1 : 2 ∉ eI := by decide) (d2 : 2526 ∉ eI := by decide) : HH s' h := by
  have h9 : HH (swD s' s) h := HH.fr H f d1 d2
  exact h9
theorem HH.fx {eI eA : List Nat} {s s' : St} {h : Nat} (H : HH s h) (f : FX eI eA s s') (d1 : 2 ∉ eI := by decide) (d2 : 2526 ∉ eI := by decide) : HH s' h := HH.fy H f.swD d1 d2
theorem PE.fy {eI eA : List Nat} {s s' : St} {h : Nat} (H : PE s h) (f : FY eI eA s s') (d1 : 768 ∉ eI := by decide) (d2 : 2532 ∉ eI := by decide) : PE s' h := by
  have h9 : PE (swD s' s) h := PE.fr H f d1 d2
  exact h9
theorem PE.fx {eI eA : List Nat} {s s' : St} {h : Nat} (H : PE s h) (f : FX eI eA s s') (d1 : 768 ∉ eI := by decide) (d2 : 2532 ∉ eI := by decide) : PE s' h := PE.fy H f.swD d1 d2
theorem TX.fy {eI eA : List Nat} {s s' : St} {n : Nat} (H : TX s n) (f : FY eI eA s s') (d1 : 1 ∉ eI := by decide) (d2 : 2497 ∉ eI := by decide) (d3 : 1 ∉ eA := by decide) (d4 : 40 ∉ eA := by decide) : TX s' n := by
  have h9 : TX (swD s' s) n := TX.fr H f d1 d2 d3 d4
  exact h9
theorem TX.fx {eI eA : List Nat} {s s' : St} {n : Nat} (H : TX s n) (f : FX eI eA s s') (d1 : 1 ∉ eI := by decide) (d2 : 2497 ∉ eI := by decide) (d3 : 1 ∉ eA := by decide) (d4 : 40 ∉ eA := by decide) : TX s' n := TX.fy H f.swD d1 d2 d3 d4
theorem RO.fy {eI eA : List Nat} {s s' : St} {h n : Nat} (H : RO s h n) (f : FY eI eA s s') (d1 : 13 ∉ eA := by decide) (d2 : 57 ∉ eA := by decide) (d3 : 14 ∉ eA := by decide) (d4 : 56 ∉ eA := by decide) (d5 : 15 ∉ eA := by decide) (d6 : 58 ∉ eA := by decide) : RO s' h n := by
  have h9 : RO (swD s' s) h n := RO.fr H f d1 d2 d3 d4 d5 d6
  exact h9
theorem RO.fx {eI eA : List Nat} {s s' : St} {h n : Nat} (H : RO s h n) (f : FX eI eA s s') (d1 : 13 ∉ eA := by decide) (d2 : 57 ∉ eA := by decide) (d3 : 14 ∉ eA := by decide) (d4 : 56 ∉ eA := by decide) (d5 : 15 ∉ eA := by decide) (d6 : 58 ∉ eA := by decide) : RO s' h n := RO.fy H f.swD d1 d2 d3 d4 d5 d6
theorem DB.fy {eI eA : List Nat} {s s' : St} {n d : Nat} (H : DB s n d) (f : FY eI eA s s') (d1 : 774 ∉ eI := by decide) (d2 : 2548 ∉ eI := by decide) (d3 : 16 ∉ eA := by decide) (d4 : 17 ∉ eA := by decide) (d5 : 69 ∉ eA := by decide) : DB s' n d := by
  have h9 : DB (swD s' s) n d := DB.fr H f d1 d2 d3 d4 d5
  exact h9
theorem DB.fx {eI eA : List Nat} {s s' : St} {n d : Nat} (H : DB s n d) (f : FX eI eA s s') (d1 : 774 ∉ eI := by decide) (d2 : 2548 ∉ eI := by decide) (d3 : 16 ∉ eA := by decide) (d4 : 17 ∉ eA := by decide) (d5 : 69 ∉ eA := by decide) : DB s' n d := DB.fy H f.swD d1 d2 d3 d4 d5
theorem AL.fy {eI eA : List Nat} {s s' : St} {h n r c w : Nat} (H : AL s h n r c w) (f : FY eI eA s s') (d1 : 1157 ∉ eI := by decide) (d2 : 1158 ∉ eI := by decide) (d3 : 2546 ∉ eI := by decide) (d : ∀ k ∈ [19, 20, 21, 22, 23, 68], k ∉ eA := by decide) : AL s' h n r c w := by
  have h9 : AL (swD s' s) h n r c w := AL.fr H f d1 d2 d3 d
  exact h9
theorem AL.fx {eI eA : List Nat} {s s' : St} {h n r c w : Nat} (H : AL s h n r c w) (f : FX eI eA s s') (d1 : 1157 ∉ eI := by decide) (d2 : 1158 ∉ eI := by decide) (d3 : 2546 ∉ eI := by decide) (d : ∀ k ∈ [19, 20, 21, 22, 23, 68], k ∉ eA := by decide) : AL s' h n r c w := AL.fy H f.swD d1 d2 d3 d
theorem LGc.fy {eI eA : List Nat} {s s' : St} {L : Nat → LR} {m : Nat} (H : LGc s L m) (f : FY eI eA s s') (d1 : 200 ∉ eI := by decide) (d : ∀ k ∈ [4, 5, 6, 7, 8, 9, 10], k ∉ eA := by decide) : LGc s' L m := by
  have h9 : LGc (swD s' s) L m := LGc.fr H f d1 d
  exact h9
theorem LGc.fx {eI eA : List Nat} {s s' : St} {L : Nat → LR} {m : Nat} (H : LGc s L m) (f : FX eI eA s s') (d1 : 200 ∉ eI := by decide) (d : ∀ k ∈ [4, 5, 6, 7, 8, 9, 10], k ∉ eA := by decide) : LGc s' L m := LGc.fy H f.swD d1 d
theorem LGm.fy {eI eA : List Nat} {s s' : St} {L : Nat → LR} {m : Nat} (H : LGm s L m) (f : FY eI eA s s') (d1 : 2527 ∉ eI := by decide) (d : ∀ k ∈ [52, 53, 54, 55], k ∉ eA := by decide) : LGm s' L m := by
  have h9 : LGm (swD s' s) L m := LGm.fr H f d1 d
  exact h9
theorem LGm.fx {eI eA : List Nat} {s s' : St} {L : Nat → LR} {m : Nat} (H : LGm s L m) (f : FX eI eA s s') (d1 : 2527 ∉ eI := by decide) (d : ∀ k ∈ [52, 53, 54, 55], k ∉ eA := by decide) : LGm s' L m := LGm.fy H f.swD d1 d
theorem TLw.fy {eI eA : List Nat} {s s' : St} {vs : List Int32} (H : TLw s vs) (f : FY eI eA s s') (d1 : 1985 ∉ eI := by decide) (d2 : 32 ∉ eA := by decide) (d3 : 33 ∉ eA := by decide) : TLw s' vs := by
  have h9 : TLw (swD s' s) vs := TLw.fr H f d1 d2 d3
  exact h9
theorem TLw.fx {eI eA : List Nat} {s s' : St} {vs : List Int32} (H : TLw s vs) (f : FX eI eA s s') (d1 : 1985 ∉ eI := by decide) (d2 : 32 ∉ eA := by decide) (d3 : 33 ∉ eA := by decide) : TLw s' vs := TLw.fy H f.swD d1 d2 d3
theorem TLr.fy {eI eA : List Nat} {s s' : St} {vs : List Int32} (H : TLr s vs) (f : FY eI eA s s') (d1 : 2241 ∉ eI := by decide) (d2 : 36 ∉ eA := by decide) (d3 : 37 ∉ eA := by decide) : TLr s' vs := by
  have h9 : TLr (swD s' s) vs := TLr.fr H f d1 d2 d3
  exact h9
theorem TLr.fx {eI eA : List Nat} {s s' : St} {vs : List Int32} (H : TLr s vs) (f : FX eI eA s s') (d1 : 2241 ∉ eI := by decide) (d2 : 36 ∉ eA := by decide) (d3 : 37 ∉ eA := by decide) : TLr s' vs := TLr.fy H f.swD d1 d2 d3
theorem RUm.fy {eI eA : List Nat} {s s' : St} {u : Nat → RU} {R : Nat} (H : RUm s u R) (f : FY eI eA s s') (d1 : 2536 ∉ eI := by decide) (d : ∀ k ∈ [59, 60, 61, 62, 63, 64, 65, 66, 67, 41, 42, 43, 44, 45], k ∉ eA := by decide) : RUm s' u R := by
  have h9 : RUm (swD s' s) u R := RUm.fr H f d1 d
  exact h9
theorem RUm.fx {eI eA : List Nat} {s s' : St} {u : Nat → RU} {R : Nat} (H : RUm s u R) (f : FX eI eA s s') (d1 : 2536 ∉ eI := by decide) (d : ∀ k ∈ [59, 60, 61, 62, 63, 64, 65, 66, 67, 41, 42, 43, 44, 45], k ∉ eA := by decide) : RUm s' u R := RUm.fy H f.swD d1 d
theorem RUc.fx {eI eA : List Nat} {s s' : St} {u : Nat → RU} {R : Nat} (H : RUc s u R) (f : FX eI eA s s') (d : 4 ∉ eI := by decide) : RUc s' u R := H.de f.2.2.2 (f.1 4 d) f.2.2.1
/-- the text slot is another one -/
theorem RUm.fm {s s' : St} {u : Nat → RU} {R : Nat} (H : RUm s u R) (hR : R ≤ 4) (hu : ∀ r, r < R → (uc (u r)).length ≤ 40) (f : FM ET 4 s s') : RUm s' u R := by
  refine ⟨by rw [f.1.gi 2536 (by decide)]; exact H.1, fun r hr => ?_, fun r h1 h2 => by rw [f.1.ga 62 (by decide), f.1.ga 64 (by decide), f.1.ga 65 (by decide)]; exact H.2.2 r h1 h2⟩
  obtain ⟨a1, a2, a3, a4, a5, a6, a7, a8, a9⟩ := H.2.1 r hr
  have := hu r hr
  refine ⟨by rw [f.1.ga 59 (by decide)]; exact a1, by rw [f.1.ga 60 (by decide)]; exact a2, by rw [f.1.ga 61 (by decide)]; exact a3, by rw [f.1.ga 62 (by decide)]; exact a4, by rw [f.1.ga 64 (by decide)]; exact a5, by rw [f.1.ga 63 (by decide)]; exact a6, by rw [f.1.ga 65 (by decide)]; exact a7, by rw [f.1.ga 66 (by decide), f.1.ga 67 (by decide)]; exact a8, a9.eq (fun k hk i hi => f.2.2.1 k hk _ (by omega)) (f.2.2.2.1 43 (by omega) r (by omega)) (by omega)⟩
/-- the text -/
theorem TX.txt {s : St} {n : Nat} (H : TX s n) : ∃ t, TXT t n ∧ CX2 t n s ∧ MT t n s := by
  obtain ⟨h1, h2, h3, h4⟩ := H
  have hk : ∀ k, k < n → ∃ c, gA s 40 k = io c ∧ 32 ≤ c ∧ c ≤ 126 ∧ cl (gA s 40 k) = c := fun k hk => by
    obtain ⟨-, c, e, a, b⟩ := h4 k hk
    exact ⟨c, e, a, b, by rw [e]; exact cl_io (by omega)⟩
  refine ⟨fun k => if k < n then cl (gA s 40 k) else 0, ⟨h1, fun k hkn => ?_, fun k hkn => if_neg (by omega)⟩, fun k hkn => ?_, h3, fun k hkn => ?_⟩
  · obtain ⟨c, e, a, b, d⟩ := hk k hkn
    dsimp only
    rw [if_pos hkn, d]; exact ⟨a, b⟩
  · obtain ⟨c, e, a, b, d⟩ := hk k hkn
    dsimp only
    rw [if_pos hkn, d, (h4 k hkn).1, e]
  · obtain ⟨c, e, a, b, d⟩ := hk k hkn
    dsimp only
    rw [if_pos hkn, d, e]
theorem MT.fx {eI eA : List Nat} {s s' : St} {t : Nat → Nat} {n : Nat} (H : MT t n s) (f : FX eI eA s s') (d1 : 2497 ∉ eI := by decide) (d2 : 40 ∉ eA := by decide) : MT t n s' := ⟨by rw [f.1 2497 d1]; exact H.1, by rw [f.2.1 40 d2]; exact H.2⟩
theorem CX2.fx {eI eA : List Nat} {s s' : St} {t : Nat → Nat} {n : Nat} (H : CX2 t n s) (f : FX eI eA s s') (d2 : 1 ∉ eA := by decide) : CX2 t n s' := by
  unfold CX2
  rw [f.2.1 1 d2]
  exact H
/-! windows -/
theorem win_int {th w : Nat} (h1 : th ≤ 1000) (h2 : w ≤ 72) : (io th - io w + io 1).toInt = (th : Int) - w + 1 := by
  have e1 : (io th - io w).toInt = (th : Int) - w := by
    rw [i32_sub (by rw [io_toInt (by omega), io_toInt (by omega)]; omega) (by rw [io_toInt (by omega), io_toInt (by omega)]; omega), io_toInt (by omega), io_toInt (by omega)]
  rw [i32_add (by rw [e1, io_toInt (by omega)]; omega) (by rw [e1, io_toInt (by omega)]; omega), e1, io_toInt (by omega)]
  rfl
theorem win_eq {th w : Nat} (h1 : th ≤ 1000) (h2 : w ≤ 72) : (if io 0 < io th - io w + io 1 then io th - io w + io 1 else io 0) = io (th + 1 - w) := by
  have e := win_int h1 h2
  by_cases h : w ≤ th
  · have e2 : io th - io w + io 1 = io (th + 1 - w) := by
      rw [← Int32.toInt_inj, e, io_toInt (by omega)]; omega
    rw [if_pos (by rw [Int32.lt_iff_toInt_lt, e, io_toInt (by omega)]; omega), e2]
  · rw [if_neg (by rw [Int32.lt_iff_toInt_lt, e, io_toInt (by omega)]; omega)]
    congr 1; omega
theorem win_lt {th w : Nat} (h1 : th ≤ 1000) (h2 : w ≤ 72) : ∀ r, r ≤ 1000 → (io r < io th - io w + io 1) = (r < th + 1 - w) := by
  intro r hr
  have e := win_int h1 h2
  rw [Int32.lt_iff_toInt_lt, e, io_toInt (by omega)]
  apply propext
  omega
theorem pks_len {L : Nat → LR} {m a b t : Nat} : (pks L m a b t).length ≤ m := Nat.le_trans (List.length_filter_le _ _) (by rw [List.length_range]; exact Nat.le_refl _)
theorem pks_mem {L : Nat → LR} {m a b t : Nat} : ∀ k ∈ pks L m a b t, k < m := fun k hk => List.mem_range.mp (List.mem_filter.mp hk).1
theorem pickW_eq {F h m th tb : Nat} {s : St} {L : Nat → LR} {x : RU} (hF : 5000 ≤ F) (C : LGc s L m) (G : LGg L m h) (hh : h ≤ 1000) (hX : RC1 s x) (hw : 1 ≤ uw x ∧ uw x ≤ 72) (hth : th ≤ 1000) (htb : tb ≤ 1000) : ∃ s', f_P_pickWindow F s (some (uq x)) (io th) (io tb) = some s' ∧ LW s' L m h (pks L m (th + 1 - uw x) th tb) ∧ Fr [201] [11] s s' := by
  obtain ⟨o, nq, d1, d2, d3, -⟩ := hX.dg
  obtain ⟨s', e1, e2, e3⟩ := pick_eq (F := F) hF C G hh htb (show th + 1 - uw x ≤ th by omega) hth
  refine ⟨s', ?_, ⟨C.fr e3, G, hh, e2, Nat.le_trans pks_len G.1, pks_mem⟩, e3⟩
  have hwi := win_eq hth hw.2
  simp (disch := omega) only [f_P_pickWindow, Option.bind_some, Nat.reduceEqDiff, Nat.add_zero, Nat.zero_add, Nat.reduceLT, Nat.reduceLeDiff, Nat.reduceAdd, Nat.reduceSub, Nat.reduceMul, Nat.reduceDiv, Nat.lt_irrefl, Nat.not_lt_zero, Nat.zero_le, Nat.one_ne_zero, Nat.succ_ne_zero,  lt_def, i32_lit, reduceIte, P_isIn_eq, M_isIn_eq, M_goes_eq, or_false, false_or, or_true, true_or, and_true, true_and, and_false, false_and, not_true, not_false_eq_true, eq_self, if_true, if_false, not_or, not_and, Nat.not_lt, Nat.not_le, d1, d3, hwi, e1]
theorem fil_cnt {p : Nat → Bool} : ∀ m, ((List.range m).filter p).length = cnt p m := by
  intro m
  induction m with
  | zero => rfl
  | succ m ih =>
    rw [List.range_succ, List.filter_append, List.length_append, ih]
    show _ = cnt p m + (if p m then 1 else 0)
    by_cases h : p m = true
    · rw [List.filter_cons_of_pos h, if_pos h]; rfl
    · rw [List.filter_cons_of_neg h, if_neg h]; rfl
theorem inWin_loop {F h m r w : Nat} {s : St} {L : Nat → LR} (M : LGm s L m) (G : LGg L m h) (H : HH s h) (hr : r < 4) (ew : gA s 60 r = io w) (hw : w ≤ 72) : ∀ k n i, i + k = m → k < n → f_M_inWindow_b23 F n s (io r) (io (cnt (inW L (h + 1 - w) h h) i)) (io 1) (io i) = some (io (cnt (inW L (h + 1 - w) h h) m), s) := by
  have hm := G.1
  have hh := H.1
  intro k
  induction k with
  | zero =>
    intro n i hi hn
    obtain ⟨n, rfl⟩ : ∃ n', n = n' + 1 := ⟨n - 1, by omega⟩
    have hi' : i = m := by omega
    subst hi'
    simp (disch := omega) only [f_M_inWindow_b23, Option.bind_some, Nat.reduceEqDiff, Nat.add_zero, Nat.zero_add, Nat.reduceLT, Nat.reduceLeDiff, Nat.reduceAdd, Nat.reduceSub, Nat.reduceMul, Nat.reduceDiv, Nat.lt_irrefl, Nat.not_lt_zero, Nat.zero_le, Nat.one_ne_zero, Nat.succ_ne_zero,  lt_def, i32_lit, reduceIte, P_isIn_eq, M_isIn_eq, M_goes_eq, or_false, false_or, or_true, true_or, and_true, true_and, and_false, false_and, not_true, not_false_eq_true, eq_self, if_true, if_false, not_or, not_and, Nat.not_lt, Nat.not_le, M.1, io_le, Nat.le_refl]
  | succ k ih =>
    intro n i hi hn
    obtain ⟨n, rfl⟩ : ∃ n', n = n' + 1 := ⟨n - 1, by omega⟩
    have h1 : ¬ m ≤ i := by omega
    have h2 := ih n (i + 1) (by omega) (by omega)
    have e55 := (M.2 i (by omega)).2.2.2
    obtain ⟨g1, g2, g3, g4, g5, g6, g7⟩ := G.2.1 i (by omega)
    have hwl := win_lt (th := h) (w := w) hh hw (rH (L i)) (by omega)
    have hin : inW L (h + 1 - w) h h i = decide (h + 1 - w ≤ rH (L i) ∧ rH (L i) ≤ h) := by
      unfold inW
      apply decide_eq_decide.mpr
      constructor
      · rintro ⟨h1, h2, -⟩; exact ⟨h1, h2⟩
      · rintro ⟨h1, h2⟩; exact ⟨h1, h2, by omega⟩
    have hs : cnt (inW L (h + 1 - w) h h) (i + 1) = cnt (inW L (h + 1 - w) h h) i + (if inW L (h + 1 - w) h h i then 1 else 0) := rfl
    rw [hs] at h2
    by_cases hc : h + 1 - w ≤ rH (L i) ∧ rH (L i) ≤ h
    · have n1 : ¬ rH (L i) < h + 1 - w := by omega
      have n2 : ¬ h < rH (L i) := by omega
      rw [if_pos (by rw [hin]; exact decide_eq_true hc)] at h2
      simp (disch := omega) only [f_M_inWindow_b23, Option.bind_some, Nat.reduceEqDiff, Nat.add_zero, Nat.zero_add, Nat.reduceLT, Nat.reduceLeDiff, Nat.reduceAdd, Nat.reduceSub, Nat.reduceMul, Nat.reduceDiv, Nat.lt_irrefl, Nat.not_lt_zero, Nat.zero_le, Nat.one_ne_zero, Nat.succ_ne_zero,  lt_def, i32_lit, reduceIte, P_isIn_eq, M_isIn_eq, M_goes_eq, or_false, false_or, or_true, true_or, and_true, true_and, and_false, false_and, not_true, not_false_eq_true, eq_self, if_true, if_false, not_or, not_and, Nat.not_lt, Nat.not_le, M.1, io_le, h1, io_eq, ix_io, e55, ew, H.2.2, hwl, io_lt, n1, n2, io_add]
      exact h2
    · have n3 : rH (L i) < h + 1 - w ∨ h < rH (L i) := by omega
      rw [if_neg (by rw [hin]; simpa using hc)] at h2
      simp (disch := omega) only [f_M_inWindow_b23, Option.bind_some, Nat.reduceEqDiff, Nat.add_zero, Nat.zero_add, Nat.reduceLT, Nat.reduceLeDiff, Nat.reduceAdd, Nat.reduceSub, Nat.reduceMul, Nat.reduceDiv, Nat.lt_irrefl, Nat.not_lt_zero, Nat.zero_le, Nat.one_ne_zero, Nat.succ_ne_zero,  lt_def, i32_lit, reduceIte, P_isIn_eq, M_isIn_eq, M_goes_eq, or_false, false_or, or_true, true_or, and_true, true_and, and_false, false_and, not_true, not_false_eq_true, eq_self, if_true, if_false, not_or, not_and, Nat.not_lt, Nat.not_le, M.1, io_le, h1, io_eq, ix_io, e55, ew, H.2.2, hwl, io_lt, n3, io_add]
      exact h2
theorem op_inWindow {F R h m : Nat} (hF : 5000 ≤ F) {s : St} {u : Nat → RU} {L : Nat → LR} {n : Nat} (H : HH s h) (C : RUc s u R) (M : RUm s u R) (G : RUg u R h n) (LC : LGc s L m) (LM : LGm s L m) (LG : LGg L m h) (x : Int32) : ∃ k s1, f_L_inWindow F s x = some (k, s1) ∧ ∀ N, sz s1 ≤ N → ∃ b s2, f_M_inWindow F (sz' s1 N) x = some (b, s2) ∧ gI s2 2551 = k ∧ (k = 0 → gJ s2 70 0 = b.toInt64) ∧ Fr [201, 2551] [11] s s2 := by
  have hz := szlt s
  have hR := G.1
  have hh := H.1
  have hm := LG.1
  by_cases hx : ∃ r, r < R ∧ x = io r
  · obtain ⟨r, hr, rfl⟩ := hx
    obtain ⟨g1, g2, g3, g4, g5, -⟩ := G.2.1 r hr
    obtain ⟨s1, e1, e2, e3⟩ := pickW_eq (F := F) (th := h) (tb := h) hF LC LG hh (C.2 r hr).2 ⟨g4, g5⟩ hh hh
    have hne : ¬ some (uq (u r)) = none := by simp
    have e201 := e2.2.2.2.1.1
    have hcn : (pks L m (h + 1 - uw (u r)) h h).length = cnt (inW L (h + 1 - uw (u r)) h h) m := fil_cnt m
    rw [hcn] at e201
    generalize hX : cnt (inW L (h + 1 - uw (u r)) h h) m = X at e201
    refine ⟨io 0, sJ s1 70 0 (io X).toInt64, ?_, fun N hN => ?_⟩
    · simp (disch := omega) only [f_L_inWindow, f_P_inWindow, Option.bind_some, Nat.reduceEqDiff, Nat.add_zero, Nat.zero_add, Nat.reduceLT, Nat.reduceLeDiff, Nat.reduceAdd, Nat.reduceSub, Nat.reduceMul, Nat.reduceDiv, Nat.lt_irrefl, Nat.not_lt_zero, Nat.zero_le, Nat.one_ne_zero, Nat.succ_ne_zero,  lt_def, i32_lit, reduceIte, P_isIn_eq, M_isIn_eq, M_goes_eq, or_false, false_or, or_true, true_or, and_true, true_and, and_false, false_and, not_true, not_false_eq_true, eq_self, if_true, if_false, not_or, not_and, Nat.not_lt, Nat.not_le, ruleAt_t C hR hr, hne, H.2.1, e1, e201]
    · have f0 : Fr [201] [11] s (sz' (sJ s1 70 0 (io X).toInt64) N) := (e3.J).Z hN
      have f : Fr [201, 2551] [11] s (sI (sz' (sJ s1 70 0 (io X).toInt64) N) 2551 (io 0)) := ((((e3.wide (by decide) (by decide)).J).Z hN)).I (by decide)
      refine ⟨io X, sI (sz' (sJ s1 70 0 (io X).toInt64) N) 2551 (io 0), ?_, rfl, fun _ => rfl, f⟩
      have hir := isRule_t (F := F) (s := sz' (sJ s1 70 0 (io X).toInt64) N) (M.fr f0).1 hR hr
      have hl := inWin_loop (F := F) (LM.fr f) LG (H.fr f) (by omega) ((M.fr f).2.1 r hr).2.1 g5 m F 0 (by omega) (by omega)
      rw [hX] at hl
      have hl' : f_M_inWindow_b23 F F (sI (sz' (sJ s1 70 0 (io X).toInt64) N) 2551 (io 0)) (io r) (io 0) (io 1) (io 0) = some (io X, sI (sz' (sJ s1 70 0 (io X).toInt64) N) 2551 (io 0)) := hl
      simp (disch := omega) only [f_M_inWindow, Option.bind_some, Nat.reduceEqDiff, Nat.add_zero, Nat.zero_add, Nat.reduceLT, Nat.reduceLeDiff, Nat.reduceAdd, Nat.reduceSub, Nat.reduceMul, Nat.reduceDiv, Nat.lt_irrefl, Nat.not_lt_zero, Nat.zero_le, Nat.one_ne_zero, Nat.succ_ne_zero,  lt_def, i32_lit, reduceIte, P_isIn_eq, M_isIn_eq, M_goes_eq, or_false, false_or, or_true, true_or, and_true, true_and, and_false, false_and, not_true, not_false_eq_true, eq_self, if_true, if_false, not_or, not_and, Nat.not_lt, Nat.not_le, hir, io_eq]
      exact hl'
  · refine ⟨io 1, s, ?_, fun N hN => ⟨io 0, sI (sz' s N) 2551 (io 1), ?_, rfl, fun h => absurd h (by decide), (Fr.rf.Z hN).I (by decide)⟩⟩
    · simp (disch := omega) only [f_L_inWindow, f_P_inWindow, Option.bind_some, Nat.reduceEqDiff, Nat.add_zero, Nat.zero_add, Nat.reduceLT, Nat.reduceLeDiff, Nat.reduceAdd, Nat.reduceSub, Nat.reduceMul, Nat.reduceDiv, Nat.lt_irrefl, Nat.not_lt_zero, Nat.zero_le, Nat.one_ne_zero, Nat.succ_ne_zero,  lt_def, i32_lit, reduceIte, P_isIn_eq, M_isIn_eq, M_goes_eq, or_false, false_or, or_true, true_or, and_true, true_and, and_false, false_and, not_true, not_false_eq_true, eq_self, if_true, if_false, not_or, not_and, Nat.not_lt, Nat.not_le, ruleAt_f C hR hx, hz]
    · have hir := isRule_f (F := F) (s := sz' s N) M.1 hR hx
      obtain ⟨F', rfl⟩ : ∃ m, F = m + 1 := ⟨F - 1, by omega⟩
      have e27 : gI (sI (sz' s N) 2551 (io 1)) 2527 = io m := LM.1
      by_cases h0 : m ≤ 0
      · simp (disch := omega) only [f_M_inWindow, f_M_inWindow_b23, Option.bind_some, Nat.reduceEqDiff, Nat.add_zero, Nat.zero_add, Nat.reduceLT, Nat.reduceLeDiff, Nat.reduceAdd, Nat.reduceSub, Nat.reduceMul, Nat.reduceDiv, Nat.lt_irrefl, Nat.not_lt_zero, Nat.zero_le, Nat.one_ne_zero, Nat.succ_ne_zero,  lt_def, i32_lit, reduceIte, P_isIn_eq, M_isIn_eq, M_goes_eq, or_false, false_or, or_true, true_or, and_true, true_and, and_false, false_and, not_true, not_false_eq_true, eq_self, if_true, if_false, not_or, not_and, Nat.not_lt, Nat.not_le, hir, io_eq, e27, io_le, h0]
      · simp (disch := omega) only [f_M_inWindow, f_M_inWindow_b23, Option.bind_some, Nat.reduceEqDiff, Nat.add_zero, Nat.zero_add, Nat.reduceLT, Nat.reduceLeDiff, Nat.reduceAdd, Nat.reduceSub, Nat.reduceMul, Nat.reduceDiv, Nat.lt_irrefl, Nat.not_lt_zero, Nat.zero_le, Nat.one_ne_zero, Nat.succ_ne_zero,  lt_def, i32_lit, reduceIte, P_isIn_eq, M_isIn_eq, M_goes_eq, or_false, false_or, or_true, true_or, and_true, true_and, and_false, false_and, not_true, not_false_eq_true, eq_self, if_true, if_false, not_or, not_and, Nat.not_lt, Nat.not_le, hir, io_eq, e27, io_le, h0]
/-! the text's error, questions asked -/
def EI9 : List Nat := [1537, 1538, 2551, 201, 1985, 1987, 1988, 1989, 1665, 1668, 1669, 2178, 2241, 2243, 2244, 2245, 2522, 2524, 2525] ++ ET
def EA9 : List Nat := [11, 27, 28, 29, 32, 33, 36, 37, 41, 42, 43, 44, 45, 46, 47, 48, 49, 51]
def RST (s : St) (u : Nat → RU) (R : Nat) : Prop := RUm s u R ∧ (∃ vs, TLw s vs) ∧ (∃ vs, TLr s vs) ∧ ∃ f0, f0 < 128 ∧ gI s 2511 = io f0
theorem op_errorAt {F R n : Nat} (hF : 5000 ≤ F) {s : St} {u : Nat → RU} (X : TX s n) (S : RST s u R) (hR : R ≤ 4) (hu : ∀ r, r < R → (uc (u r)).length ≤ 40) : ∃ r s1, f_P_errorAt F (sz s + 64) s = some (.inl r, s1) ∧ ∃ s2, f_M_errorAt F s1 = some (r, s2) ∧ FX EI9 EA9 s s2 ∧ RST s2 u R := by
  obtain ⟨t, T, X1, M1⟩ := X.txt
  have hn := T.1
  obtain ⟨S1, ⟨v1, S2⟩, ⟨v2, S3⟩, S4⟩ := S
  obtain ⟨q', s1, a1, a2, a3, a4, a5, a6⟩ := read_eq (F := F) (Z := sz s + 64) hF T X1 (by omega)
  have f1 := a2.fx
  have e1 : gI s 1 = io n := X.2.1
  have hz : sz s1 ≤ sz s + 64 := by omega
  have f2 : FX EI9 EA9 s (sI s1 2551 (io 0)) := (f1.wide (by decide) (by decide)).trans (Fr.fx (Fr.rf.I (by decide)))
  have M2 : MT t n (sI s1 2551 (io 0)) := (M1.fx f1 : MT t n s1)
  have g0 : ∃ f0, f0 < 128 ∧ gI (sI s1 2551 (io 0)) 2511 = io f0 := by
    obtain ⟨f0, h1, h2⟩ := S4
    exact ⟨f0, h1, by show gI s1 2511 = _; rw [f1.1 2511 (by decide)]; exact h2⟩
  obtain ⟨r, s2, b1, b2, b3, b4, b5⟩ := turns_eq (F := F) (p := 4) hF T (Nat.le_refl _) M2 g0
  have f3 : FX EI9 EA9 s s2 := f2.trans (Fr.fx (b2.1.wide (by decide) (by decide)))
  have R2 : RST s2 u R := ⟨((S1.fx f1).fr (eI := [2551]) (eA := []) (Fr.rf.I (by decide)) : RUm (sI s1 2551 (io 0)) u R).fm hR hu b2, ⟨v1, ((S2.fx f1).fr (eI := [2551]) (eA := []) (Fr.rf.I (by decide)) : TLw (sI s1 2551 (io 0)) v1).fr b2.1⟩, ⟨v2, ((S3.fx f1).fr (eI := [2551]) (eA := []) (Fr.rf.I (by decide)) : TLr (sI s1 2551 (io 0)) v2).fr b2.1⟩, b3⟩
  have hM : f_M_errorAt F s1 = some (r, s2) := by
    simp (disch := omega) only [f_M_errorAt, Option.bind_some, Nat.reduceEqDiff, Nat.add_zero, Nat.zero_add, Nat.reduceLT, Nat.reduceLeDiff, Nat.reduceAdd, Nat.reduceSub, Nat.reduceMul, Nat.reduceDiv, Nat.lt_irrefl, Nat.not_lt_zero, Nat.zero_le, Nat.one_ne_zero, Nat.succ_ne_zero,  lt_def, i32_lit, reduceIte, P_isIn_eq, M_isIn_eq, M_goes_eq, or_false, false_or, or_true, true_or, and_true, true_and, and_false, false_and, not_true, not_false_eq_true, eq_self, if_true, if_false, not_or, not_and, Nat.not_lt, Nat.not_le, b1]
  cases hq : ques t n with
  | none =>
    have hr := b4 hq
    have hq' := a5 hq
    subst hq'
    refine ⟨r, s1, ?_, s2, hM, f3, R2⟩
    simp (disch := omega) only [f_P_errorAt, Option.bind_some, Nat.reduceEqDiff, Nat.add_zero, Nat.zero_add, Nat.reduceLT, Nat.reduceLeDiff, Nat.reduceAdd, Nat.reduceSub, Nat.reduceMul, Nat.reduceDiv, Nat.lt_irrefl, Nat.not_lt_zero, Nat.zero_le, Nat.one_ne_zero, Nat.succ_ne_zero,  lt_def, i32_lit, reduceIte, P_isIn_eq, M_isIn_eq, M_goes_eq, or_false, false_or, or_true, true_or, and_true, true_and, and_false, false_and, not_true, not_false_eq_true, eq_self, if_true, if_false, not_or, not_and, Nat.not_lt, Nat.not_le, e1, a1, hz, f_Reader_place, a3, hr]
  | some c =>
    have hr := (b5 c hq).1
    obtain ⟨q, rfl, -⟩ := a6 c hq
    have hne : ¬ some q = none := by simp
    refine ⟨r, s1, ?_, s2, hM, f3, R2⟩
    simp (disch := omega) only [f_P_errorAt, Option.bind_some, Nat.reduceEqDiff, Nat.add_zero, Nat.zero_add, Nat.reduceLT, Nat.reduceLeDiff, Nat.reduceAdd, Nat.reduceSub, Nat.reduceMul, Nat.reduceDiv, Nat.lt_irrefl, Nat.not_lt_zero, Nat.zero_le, Nat.one_ne_zero, Nat.succ_ne_zero,  lt_def, i32_lit, reduceIte, P_isIn_eq, M_isIn_eq, M_goes_eq, or_false, false_or, or_true, true_or, and_true, true_and, and_false, false_and, not_true, not_false_eq_true, eq_self, if_true, if_false, not_or, not_and, Nat.not_lt, Nat.not_le, e1, a1, hz, hne, hr]
