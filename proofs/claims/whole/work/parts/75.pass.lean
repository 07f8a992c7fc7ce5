/-! time passes; what always holds -/
def IVg (s : St) (h n d nt c w : Nat) (L : Nat → LR) (m : Nat) (u : Nat → RU) (R : Nat) : Prop := HH s h ∧ PE s n ∧ RO s h n ∧ DB s n d ∧ TX s nt ∧ AL s h n R c w ∧ (gA s 58 (h / 8) = -io 1 ∨ w = c) ∧ d ≤ cnt (an1 s) c ∧ c = csum u R ∧ LGc s L m ∧ LGm s L m ∧ LGg L m h ∧ RUc s u R ∧ RUg u R h n ∧ HS L m u R h ∧ RST s u R
def IV (s : St) : Prop := ∃ h n d nt c w L m u R, IVg s h n d nt c w L m u R
theorem cnt_mono {p : Nat → Bool} {c c' : Nat} (h : c ≤ c') : cnt p c ≤ cnt p c' := by
  induction c' with
  | zero => rw [show c = 0 by omega]; exact Nat.le_refl _
  | succ k ih =>
    by_cases e : c = k + 1
    · rw [e]; exact Nat.le_refl _
    · exact Nat.le_trans (ih (by omega)) (Nat.le_add_right _ _)
theorem IVg.fy {eI eA : List Nat} {s s' : St} {h n d nt c w : Nat} {L : Nat → LR} {m : Nat} {u : Nat → RU} {R : Nat} (I : IVg s h n d nt c w L m u R) (f : FY eI eA s s') (hC : RUc s' u R) (hS : RST s' u R) (dI : ∀ k ∈ [2, 2526, 768, 2532, 774, 2548, 1, 2497, 1157, 1158, 2546, 200, 2527], k ∉ eI := by decide) (dA : ∀ k ∈ [13, 57, 14, 56, 15, 58, 16, 17, 69, 1, 40, 19, 20, 21, 22, 23, 68, 4, 5, 6, 7, 8, 9, 10, 52, 53, 54, 55], k ∉ eA := by decide) : IVg s' h n d nt c w L m u R := by
  obtain ⟨i1, i2, i3, i4, i5, i6, i7, i8, i9, i10, i11, i12, i13, i14, i15, i16⟩ := I
  have dI' : ∀ k, k ∈ [2, 2526, 768, 2532, 774, 2548, 1, 2497, 1157, 1158, 2546, 200, 2527] → k ∉ eI := dI
  have dA' : ∀ k, k ∈ [13, 57, 14, 56, 15, 58, 16, 17, 69, 1, 40, 19, 20, 21, 22, 23, 68, 4, 5, 6, 7, 8, 9, 10, 52, 53, 54, 55] → k ∉ eA := dA
  have e58 : gA s' 58 = gA s 58 := f.2.1 58 (dA' 58 (by decide))
  have e23 : an1 s' = an1 s := by
    funext j
    have e : gA s' 23 = gA s 23 := f.2.1 23 (dA' 23 (by decide))
    unfold an1
    rw [e]
  exact ⟨i1.fy f (dI' 2 (by decide)) (dI' 2526 (by decide)), i2.fy f (dI' 768 (by decide)) (dI' 2532 (by decide)), i3.fy f (dA' 13 (by decide)) (dA' 57 (by decide)) (dA' 14 (by decide)) (dA' 56 (by decide)) (dA' 15 (by decide)) (dA' 58 (by decide)), i4.fy f (dI' 774 (by decide)) (dI' 2548 (by decide)) (dA' 16 (by decide)) (dA' 17 (by decide)) (dA' 69 (by decide)), i5.fy f (dI' 1 (by decide)) (dI' 2497 (by decide)) (dA' 1 (by decide)) (dA' 40 (by decide)), i6.fy f (dI' 1157 (by decide)) (dI' 1158 (by decide)) (dI' 2546 (by decide)) (fun k hk => dA' k ((show ∀ x ∈ [19, 20, 21, 22, 23, 68], x ∈ [13, 57, 14, 56, 15, 58, 16, 17, 69, 1, 40, 19, 20, 21, 22, 23, 68, 4, 5, 6, 7, 8, 9, 10, 52, 53, 54, 55] by decide) k hk)), by rw [e58]; exact i7, by rw [e23]; exact i8, i9, i10.fy f (dI' 200 (by decide)) (fun k hk => dA' k ((show ∀ x ∈ [4, 5, 6, 7, 8, 9, 10], x ∈ [13, 57, 14, 56, 15, 58, 16, 17, 69, 1, 40, 19, 20, 21, 22, 23, 68, 4, 5, 6, 7, 8, 9, 10, 52, 53, 54, 55] by decide) k hk)), i11.fy f (dI' 2527 (by decide)) (fun k hk => dA' k ((show ∀ x ∈ [52, 53, 54, 55], x ∈ [13, 57, 14, 56, 15, 58, 16, 17, 69, 1, 40, 19, 20, 21, 22, 23, 68, 4, 5, 6, 7, 8, 9, 10, 52, 53, 54, 55] by decide) k hk)), i12, hC, i14, i15, hS⟩
theorem IVg.fx {eI eA : List Nat} {s s' : St} {h n d nt c w : Nat} {L : Nat → LR} {m : Nat} {u : Nat → RU} {R : Nat} (I : IVg s h n d nt c w L m u R) (f : FX eI eA s s') (hS : RST s' u R) (d4 : 4 ∉ eI := by decide) (dI : ∀ k ∈ [2, 2526, 768, 2532, 774, 2548, 1, 2497, 1157, 1158, 2546, 200, 2527], k ∉ eI := by decide) (dA : ∀ k ∈ [13, 57, 14, 56, 15, 58, 16, 17, 69, 1, 40, 19, 20, 21, 22, 23, 68, 4, 5, 6, 7, 8, 9, 10, 52, 53, 54, 55], k ∉ eA := by decide) : IVg s' h n d nt c w L m u R := by
  have hC := I.2.2.2.2.2.2.2.2.2.2.2.2.1
  exact I.fy f.swD (hC.fx f d4) hS dI dA
theorem op_pass {F : Nat} (hF : 5000 ≤ F) {s : St} {h n d nt c w : Nat} {L : Nat → LR} {m : Nat} {u : Nat → RU} {R : Nat} (I : IVg s h n d nt c w L m u R) (x : Int32) : ∃ k s1, f_L_pass F s x = some (k, s1) ∧ ∀ N, sz s1 ≤ N → ∃ b s2, f_M_pass F (sz' s1 N) x = some (b, s2) ∧ gI s2 2551 = k ∧ (k = 0 → gJ s2 70 0 = b.toInt64) ∧ IV s2 := by
  have I0 := I
  obtain ⟨i1, i2, i3, i4, i5, i6, i7, i8, i9, i10, i11, i12, i13, i14, i15, i16⟩ := I
  have hz := szlt s
  have hh := i1.1
  have hR := i14.1
  have bad : ∀ t N, sz s ≤ N → IV (sI (sz' s N) 2551 t) := fun t N hN => by
    have f : Fr [2551] [] s (sI (sz' s N) 2551 t) := (Fr.rf.Z hN).I (by decide)
    exact ⟨h, n, d, nt, c, w, L, m, u, R, I0.fx f.fx (i16.fx f.fx)⟩
  rcases in_cases (x := x) (l := 1) (g := 24) (by omega) (by omega) with h2 | ⟨p, rfl, hp1, hp2⟩
  · refine ⟨io 1, s, ?_, fun N hN => ⟨io 0, sI (sz' s N) 2551 (io 1), ?_, by rw [gI_sI, if_pos rfl], fun e => absurd e (by decide), bad _ N hN⟩⟩
    · simp (disch := omega) only [f_L_pass, f_P_pass, Option.bind_some, Nat.reduceEqDiff, Nat.add_zero, Nat.zero_add, Nat.reduceLT, Nat.reduceLeDiff, Nat.reduceAdd, Nat.reduceSub, Nat.reduceMul, Nat.reduceDiv, Nat.lt_irrefl, Nat.not_lt_zero, Nat.zero_le, Nat.one_ne_zero, Nat.succ_ne_zero,  lt_def, i32_lit, reduceIte, P_isIn_eq, M_isIn_eq, M_goes_eq, or_false, false_or, or_true, true_or, and_true, true_and, and_false, false_and, not_true, not_false_eq_true, eq_self, if_true, if_false, not_or, not_and, Nat.not_lt, Nat.not_le, h2, hz, io_eq]
    · simp (disch := omega) only [f_M_pass, Option.bind_some, Nat.reduceEqDiff, Nat.add_zero, Nat.zero_add, Nat.reduceLT, Nat.reduceLeDiff, Nat.reduceAdd, Nat.reduceSub, Nat.reduceMul, Nat.reduceDiv, Nat.lt_irrefl, Nat.not_lt_zero, Nat.zero_le, Nat.one_ne_zero, Nat.succ_ne_zero,  lt_def, i32_lit, reduceIte, P_isIn_eq, M_isIn_eq, M_goes_eq, or_false, false_or, or_true, true_or, and_true, true_and, and_false, false_and, not_true, not_false_eq_true, eq_self, if_true, if_false, not_or, not_and, Nat.not_lt, Nat.not_le, h2, io_eq]
  · have m1 : ¬ p < 1 := by omega
    have m2 : ¬ 24 < p := by omega
    by_cases hle : h + p ≤ 1000
    · obtain ⟨g, s1', s2', s3', s4', s5', s6'⟩ := RO.split i3 i4
      obtain ⟨a, t1, t2, t3⟩ := AL.split i6
      obtain ⟨S1, TT, ⟨v2, S3⟩, f0, hf0, hf1⟩ := i16
      obtain ⟨y, hy⟩ : ∃ y : GS, y = (h, g, d, a, c, w, u) := ⟨_, rfl⟩
      have eyh : yh y = h := by rw [hy]; rfl
      have eyc : yc y = c := by rw [hy]; rfl
      have eyd : yd y = d := by rw [hy]; rfl
      have G : GF L m n R y := by
        rw [hy]
        have i7' : gho g (h / 8) = -io 1 ∨ w = c := by rw [← (s2' (h / 8) (by omega)).2.2]; exact i7
        exact ⟨hh, s3', s6', t3, i7', i14, i15, i9, i12⟩
      have C0 : CI L m n R s y := by
        rw [hy]
        exact ⟨i1.2.1, ⟨i2.1, i2.2.1⟩, s1', s4', t1, i13, i10, TT⟩
      have M0 : MI L m n R s y := by
        rw [hy]
        exact ⟨i1.2.2, ⟨i2.1, i2.2.2⟩, s2', s5', t2, S1, i11⟩
      obtain ⟨s1, e1, C1, f1⟩ := CI.hours (F := F) (Z := sz s + 64) (p := p) (c0 := c) hF G i2.1 (by omega) (by omega) p 0 F s (by omega) (by omega) C0
      have hG := G.hours i2.1 p (by omega)
      obtain ⟨k1, k2, k3⟩ := gP_h (L := L) (m := m) (n := n) (R := R) (y := y) p
      obtain ⟨y', hy'⟩ : ∃ y' : GS, y' = gP L m n R y p := ⟨_, rfl⟩
      rw [← hy'] at e1 C1 hG k1 k2 k3
      have e57 : gI s 1157 = io c := t1.1
      have q1 : p ≤ 1000 - h := by omega
      have hcl : f_L_pass F s (io p) = some (io 0, sJ s1 70 0 (io (yc y' - c)).toInt64) := by
        simp (disch := omega) only [f_L_pass, f_P_pass, Option.bind_some, Nat.reduceEqDiff, Nat.add_zero, Nat.zero_add, Nat.reduceLT, Nat.reduceLeDiff, Nat.reduceAdd, Nat.reduceSub, Nat.reduceMul, Nat.reduceDiv, Nat.lt_irrefl, Nat.not_lt_zero, Nat.zero_le, Nat.one_ne_zero, Nat.succ_ne_zero,  lt_def, i32_lit, reduceIte, P_isIn_eq, M_isIn_eq, M_goes_eq, or_false, false_or, or_true, true_or, and_true, true_and, and_false, false_and, not_true, not_false_eq_true, eq_self, if_true, if_false, not_or, not_and, Nat.not_lt, Nat.not_le, io_lt, m1, m2, io_eq, i1.2.1, io_sub, io_le, q1, e57, e1]
      refine ⟨io 0, _, hcl, fun N hN => ?_⟩
      obtain ⟨z, hzz⟩ : ∃ z, z = sI (sz' (sJ s1 70 0 (io (yc y' - c)).toInt64) N) 2551 (io 0) := ⟨_, rfl⟩
      have fz : Fr [2551] [] s1 z := by rw [hzz]; exact ((Fr.rf.J).Z hN).I (by decide)
      have zJ : gJ z 70 0 = (io (yc y' - c)).toInt64 := by rw [hzz, gJ_sI, gJ_sz, gJ_sJ, if_pos rfl, if_pos rfl]
      have z51 : gI z 2551 = io 0 := by rw [hzz, gI_sI, if_pos rfl]
      have fyz : FY (2551 :: EIp) EAp s z := (FY.wide f1 (by decide) (by decide)).trans ((fz.wide (by decide) (by decide)).fy)
      have Mz : MI L m n R z y := by
        obtain ⟨c1, c2, c3, c4, c5, c6, c7⟩ := M0
        have w2 : PEm (swD z s) n := PEm.fr c2 fyz
        have w3 : ROm (swD z s) (yg y) := ROm.fr c3 fyz
        have w4 : DBm (swD z s) (yg y) (yd y) := DBm.fr c4 fyz
        have w5 : ALm (swD z s) (ya y) (yc y) := ALm.fr c5 fyz
        exact ⟨(fyz.1 2526 (by decide)).trans c1, w2, w3, w4, w5, c6.fy fyz, c7.fy fyz⟩
      obtain ⟨s2, b1, M2, f2, j2⟩ := MI.hours (F := F) (p := p) (c0 := c) hF G i2.1 (by omega) (by omega) p 0 F z (by omega) (by omega) Mz
      rw [← hy'] at b1 M2
      have e26 : gI (sz' (sJ s1 70 0 (io (yc y' - c)).toInt64) N) 2526 = io h := by
        rw [gI_sz, gI_sJ]
        exact (f1.1 2526 (by decide)).trans i1.2.2
      have e46 : gI z 2546 = io c := by rw [← eyc]; exact Mz.2.2.2.2.1.1
      have q2 : h + p ≤ 1000 := hle
      have hm : f_M_pass F (sz' (sJ s1 70 0 (io (yc y' - c)).toInt64) N) (io p) = some (io (yc y' - c), s2) := by
        simp (disch := omega) only [f_M_pass, Option.bind_some, Nat.reduceEqDiff, Nat.add_zero, Nat.zero_add, Nat.reduceLT, Nat.reduceLeDiff, Nat.reduceAdd, Nat.reduceSub, Nat.reduceMul, Nat.reduceDiv, Nat.lt_irrefl, Nat.not_lt_zero, Nat.zero_le, Nat.one_ne_zero, Nat.succ_ne_zero,  lt_def, i32_lit, reduceIte, P_isIn_eq, M_isIn_eq, M_goes_eq, or_false, false_or, or_true, true_or, and_true, true_and, and_false, false_and, not_true, not_false_eq_true, eq_self, if_true, if_false, not_or, not_and, Nat.not_lt, Nat.not_le, io_lt, m1, m2, io_eq, e26, io_add, io_le, q2, ← hzz, e46, b1]
      have f12 : Fr (2551 :: EIq) EAq s1 s2 := (fz.wide (by decide) (by decide)).trans (f2.wide (by decide) (by decide))
      refine ⟨io (yc y' - c), s2, hm, by rw [f2.gi 2551 (by decide)]; exact z51, fun _ => by rw [j2 70 (by decide)]; exact zJ, ?_⟩
      obtain ⟨d1, d2, d3, d4, d5, d6, d7, vs, d8⟩ := C1
      obtain ⟨c1, c2, c3, c4, c5, c6, c7⟩ := M2
      obtain ⟨g1, g2, g3, g4, g5, g6, g7, g8, g9⟩ := hG
      have fall : FY (2551 :: (EIp ++ EIq)) (EAp ++ EAq) s s2 := (FY.wide f1 (by decide) (by decide)).trans ((f12.wide (by decide) (by decide)).fy)
      have e23 : an1 s2 = an1 s := by
        funext j
        have e : gA s2 23 = gA s 23 := fall.2.1 23 (by decide)
        unfold an1
        rw [e]
      refine ⟨yh y', n, yd y', nt, yc y', yw y', L, m, yu y', R, ⟨g1, (f12.gi 2 (by decide)).trans d1, c1⟩, ⟨i2.1, (f12.gi 768 (by decide)).trans d2.2, c2.2⟩, RO.join (d3.fy f12.fy) c3 g2, DB.join (d4.fy f12.fy) c4 g3, i5.fy fall, AL.join (d5.fy f12.fy) c5 g4, by rw [(c3 (yh y' / 8) (by omega)).2.2]; exact g5, ?_, g8, d7.fr f12, c7, g9, d6.fr f12, g6, g7, c6, ⟨vs, TLw.fr d8 f12⟩, ⟨v2, TLr.fy S3 fall⟩, f0, hf0, ?_⟩
      · rw [e23]
        exact Nat.le_trans (by omega) (Nat.le_trans i8 (cnt_mono (by omega)))
      · exact (fall.1 2511 (by decide)).trans hf1
    · have q1 : ¬ p ≤ 1000 - h := by omega
      have q2 : ¬ h + p ≤ 1000 := by omega
      refine ⟨io 2, s, ?_, fun N hN => ⟨io 0, sI (sz' s N) 2551 (io 2), ?_, by rw [gI_sI, if_pos rfl], fun e => absurd e (by decide), bad _ N hN⟩⟩
      · simp (disch := omega) only [f_L_pass, f_P_pass, Option.bind_some, Nat.reduceEqDiff, Nat.add_zero, Nat.zero_add, Nat.reduceLT, Nat.reduceLeDiff, Nat.reduceAdd, Nat.reduceSub, Nat.reduceMul, Nat.reduceDiv, Nat.lt_irrefl, Nat.not_lt_zero, Nat.zero_le, Nat.one_ne_zero, Nat.succ_ne_zero,  lt_def, i32_lit, reduceIte, P_isIn_eq, M_isIn_eq, M_goes_eq, or_false, false_or, or_true, true_or, and_true, true_and, and_false, false_and, not_true, not_false_eq_true, eq_self, if_true, if_false, not_or, not_and, Nat.not_lt, Nat.not_le, io_lt, m1, m2, io_eq, i1.2.1, io_sub, io_le, q1, hz]
      · have e26 : gI (sz' s N) 2526 = io h := i1.2.2
        simp (disch := omega) only [f_M_pass, Option.bind_some, Nat.reduceEqDiff, Nat.add_zero, Nat.zero_add, Nat.reduceLT, Nat.reduceLeDiff, Nat.reduceAdd, Nat.reduceSub, Nat.reduceMul, Nat.reduceDiv, Nat.lt_irrefl, Nat.not_lt_zero, Nat.zero_le, Nat.one_ne_zero, Nat.succ_ne_zero,  lt_def, i32_lit, reduceIte, P_isIn_eq, M_isIn_eq, M_goes_eq, or_false, false_or, or_true, true_or, and_true, true_and, and_false, false_and, not_true, not_false_eq_true, eq_self, if_true, if_false, not_or, not_and, Nat.not_lt, Nat.not_le, io_lt, m1, m2, io_eq, e26, io_add, io_le, q2]
