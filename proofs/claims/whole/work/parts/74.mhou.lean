/-! an hour of the model -/
theorem MI.begin {F m n R : Nat} (hF : 5000 ≤ F) {L : Nat → LR} {s : St} {y : GS} (C : MI L m n R s y) (G : GF L m n R y) (hn : n ≤ 8) (h1 : yh y + 1 ≤ 1000) : ∃ s', (((yh y + 1) % 8 = 0 ∧ f_M_begins F (sI s 2526 (io (yh y + 1))) (io ((yh y + 1) / 8)) = some s') ∨ (¬ (yh y + 1) % 8 = 0 ∧ s' = sI s 2526 (io (yh y + 1)))) ∧ MI L m n R s' (gB n y) ∧ Fr EIq EAq s s' ∧ ∀ k, k ≠ 50 → gJ s' k = gJ s k := by
  obtain ⟨c1, c2, c3, c4, c5, c6, c7⟩ := C
  obtain ⟨a1, a2, a3, a4, a5, a6, a7, a8, a9⟩ := G
  have hj : (yh y + 1) / 8 < 126 := by omega
  obtain ⟨s1, hs1⟩ : ∃ s1, s1 = sI s 2526 (io (yh y + 1)) := ⟨_, rfl⟩
  rw [← hs1]
  have f1 : Fr [2526] [] s s1 := by rw [hs1]; exact Fr.rf.I (by decide)
  have j1 : gJ s1 = gJ s := by rw [hs1, gJ_sI]
  have e2 : gI s1 2526 = io (yh y + 1) := by rw [hs1, gI_sI, if_pos rfl]
  have p1 := c2.fr f1
  have p2 := c3.fr f1
  have p3 := c4.fr f1
  have p4 := c5.fr f1
  unfold gB
  by_cases h8 : (yh y + 1) % 8 = 0
  · rw [if_pos h8]
    obtain ⟨s2, b1, b2, b3, b4⟩ := M_begin (F := F) hF p1 p2 a2 p3 a3 hj
    have hnob := hold2_nob (d := yd y) a2 a3 hj hn
    have e22 : gI s2 2526 = io (yh y + 1) := by rw [b4.gi 2526 (by decide)]; exact e2
    obtain ⟨s3, w1, w2, w3⟩ := M_wake (F := F) (h := yh y + 1) hF h1 (p4.fr b4) (a4.hr (Nat.le_succ _)) hn e22 hnob
    have e23 : gI s3 2526 = io (yh y + 1) := by rw [w3.gi 2526 (by decide)]; exact e22
    have hb : f_M_begins F s1 (io ((yh y + 1) / 8)) = some s3 := b1.trans w1
    have f23 : Fr [2548, 2550] [58, 69, 68] s1 s3 := (b4.wide (by decide) (by decide)).trans (w3.wide (by decide) (by decide))
    have hJ : gJ s3 = gJ s1 := begins_J (M_hold2 (F := F) hF p1 p2 a2 p3 a3 hj) (gJ_sI _ _ _) hb
    refine ⟨s3, Or.inl ⟨h8, hb⟩, ⟨e23, p1.fr f23, b2.fr w3, b3.fr w3, w2, ?_, (c7.fr f1 : LGm s1 L m).fr f23⟩, (f1.wide (by decide) (by decide)).trans (f23.wide (by decide) (by decide)), fun k _ => by rw [hJ, j1]⟩
    exact (c6.fr f1 : RUm s1 (yu y) R).fr f23
  · rw [if_neg h8]
    exact ⟨s1, Or.inr ⟨h8, rfl⟩, ⟨e2, p1, p2, p3, p4, c6.fr f1, c7.fr f1⟩, f1.wide (by decide) (by decide), fun k _ => by rw [j1]⟩
theorem MI.step {F m n R k N : Nat} (hF : 5000 ≤ F) {L : Nat → LR} {s : St} {y : GS} {K : St → Int32 → Int32 → Int32 → Option (Int32 × St)} {l1 l2 l3 : Int32} (C : MI L m n R s y) (G : GI L m n R y k) (hn : n ≤ 8) (hk : k < R) : ∃ s', f_M_pass_b86 F K (N + 1) s l1 l2 l3 (io k) = f_M_pass_b86 F K N s' l1 l2 l3 (io (k + 1)) ∧ MI L m n R s' (gr1 L m y k) ∧ Fr EIq EAq s s' ∧ ∀ k, k ≠ 50 → gJ s' k = gJ s k := by
  have hroom := G.room hk
  obtain ⟨c1, c2, c3, c4, c5, c6, c7⟩ := C
  obtain ⟨a0, a1, a2, a3, a4, a5, a6, b1, b2, a8, a9⟩ := G
  have hR := a6.1
  have n1 : ¬ R ≤ k := by omega
  have e36 := c6.1
  obtain ⟨s1, r1, r2, r3⟩ := isRisen_eq (F := F) hF c1 a0 a1 c6 (a6.2.1 k hk) c7 a9 hk hR
  have p1 := c2.fr r2
  have p2 := c3.fr r2
  have p3 := c4.fr r2
  have p4 := c5.fr r2
  have p5 : RUm s1 (yu y) R := c6.fr r2
  have p6 : LGm s1 L m := c7.fr r2
  have e26 : gI s1 2526 = io (yh y) := by rw [r2.gi 2526 (by decide)]; exact c1
  unfold gr1
  by_cases hc : ud (yu y k) = 0 ∧ dueB L m (yu y k) (yh y) (ul (yu y k)) = true
  · rw [if_pos hc] at r1 ⊢
    obtain ⟨q1, q2⟩ := hroom hc.1
    have hnob : nob n (gho (yg y) (yh y / 8)) := (a2 (yh y / 8) (by omega)).2.2.1
    obtain ⟨s2, w1, w2, w3, w4, w5⟩ := M_raise (F := F) (q := k) a1 hn p4 a4 q1 hk e26 hnob (p2 (yh y / 8) (by omega)).2.2 a5
    have hJ := raises_J w1
    refine ⟨s2, ?_, ⟨by rw [w5.gi 2526 (by decide)]; exact e26, p1.fr w5, p2.fr w5, p3.fr w5, w2, ?_, p6.fr w5⟩, (r2.wide (by decide) (by decide)).trans (w5.wide (by decide) (by decide)), fun j hj => by rw [hJ]; exact r3 j hj⟩
    · rw [f_M_pass_b86]
      simp (disch := omega) only [Option.bind_some, Nat.reduceEqDiff, Nat.add_zero, Nat.zero_add, Nat.reduceLT, Nat.reduceLeDiff, Nat.reduceAdd, Nat.reduceSub, Nat.reduceMul, Nat.reduceDiv, Nat.lt_irrefl, Nat.not_lt_zero, Nat.zero_le, Nat.one_ne_zero, Nat.succ_ne_zero,  lt_def, i32_lit, reduceIte, P_isIn_eq, M_isIn_eq, M_goes_eq, or_false, false_or, or_true, true_or, and_true, true_and, and_false, false_and, not_true, not_false_eq_true, eq_self, if_true, if_false, not_or, not_and, Nat.not_lt, Nat.not_le, e36, io_le, n1, r1, io_eq, w1, io_add]
    · have e63 : ∀ j, j ≠ k → gA s2 63 j = gA s1 63 j := fun j hj => by rw [w3]; exact if_neg hj
      have e64 : ∀ j, j ≠ k → gA s2 64 j = gA s1 64 j := fun j hj => by rw [w4]; exact if_neg hj
      obtain ⟨m1, m2, m3, m4, m5, m6, m7, m8, m9⟩ := p5.2.1 k hk
      have hpg : ∀ j c, PG s1 j c → PG s2 j c := fun j c hp => by
        unfold PG row at *
        rw [w5.ga 41 (by decide), w5.ga 42 (by decide), w5.ga 43 (by decide), w5.ga 44 (by decide), w5.ga 45 (by decide)]
        exact hp
      refine p5.upd hk (w5.gi 2536 (by decide)) (fun j hj hjk hm => ?_) ?_ (fun j hj hj4 => ⟨by rw [w5.ga 62 (by decide)], e64 j (by omega), by rw [w5.ga 65 (by decide)]⟩)
      · obtain ⟨b1, b2, b3, b4, b5, b6, b7, b8, b9⟩ := hm
        exact ⟨by rw [w5.ga 59 (by decide)]; exact b1, by rw [w5.ga 60 (by decide)]; exact b2, by rw [w5.ga 61 (by decide)]; exact b3, by rw [w5.ga 62 (by decide)]; exact b4, by rw [e64 j hjk]; exact b5, by rw [e63 j hjk]; exact b6, by rw [w5.ga 65 (by decide)]; exact b7, by rw [w5.ga 66 (by decide), w5.ga 67 (by decide)]; exact b8, hpg _ _ b9⟩
      · refine ⟨by rw [w5.ga 59 (by decide)]; exact m1, by rw [w5.ga 60 (by decide)]; exact m2, by rw [w5.ga 61 (by decide)]; exact m3, by rw [w5.ga 62 (by decide)]; exact m4, ?_, fun _ => ?_, by rw [w5.ga 65 (by decide)]; exact m7, by rw [w5.ga 66 (by decide), w5.ga 67 (by decide)]; exact m8, hpg _ _ m9⟩
        · rw [w4]
          show (if k = k then gA s1 64 k + io 1 else gA s1 64 k) = io (un (yu y k) + 1)
          rw [if_pos rfl, m5, io_add]
        · rw [w3]
          show (if k = k then io (yh y) else gA s1 63 k) = io (yh y + 1 - 1)
          rw [if_pos rfl, Nat.add_sub_cancel]
  · rw [if_neg hc] at r1 ⊢
    refine ⟨s1, ?_, ⟨e26, p1, p2, p3, p4, p5, p6⟩, r2.wide (by decide) (by decide), r3⟩
    rw [f_M_pass_b86]
    simp (disch := omega) only [Option.bind_some, Nat.reduceEqDiff, Nat.add_zero, Nat.zero_add, Nat.reduceLT, Nat.reduceLeDiff, Nat.reduceAdd, Nat.reduceSub, Nat.reduceMul, Nat.reduceDiv, Nat.lt_irrefl, Nat.not_lt_zero, Nat.zero_le, Nat.one_ne_zero, Nat.succ_ne_zero,  lt_def, i32_lit, reduceIte, P_isIn_eq, M_isIn_eq, M_goes_eq, or_false, false_or, or_true, true_or, and_true, true_and, and_false, false_and, not_true, not_false_eq_true, eq_self, if_true, if_false, not_or, not_and, Nat.not_lt, Nat.not_le, e36, io_le, n1, r1, io_eq, io_add]
theorem MI.steps {F m n R : Nat} (hF : 5000 ≤ F) {L : Nat → LR} {y : GS} {K : St → Int32 → Int32 → Int32 → Option (Int32 × St)} {l1 l2 : Int32} {l3 : Nat} (hn : n ≤ 8) (G : GI L m n R y 0) : ∀ j k N s, k + j = R → j < N → MI L m n R s (grs L m y k) → ∃ s', f_M_pass_b86 F K N s l1 l2 (io l3) (io k) = K s' l1 l2 (io (l3 + 1)) ∧ MI L m n R s' (grs L m y R) ∧ Fr EIq EAq s s' ∧ ∀ k, k ≠ 50 → gJ s' k = gJ s k := by
  intro j
  induction j with
  | zero =>
    intro k N s hk hN C
    obtain ⟨N, rfl⟩ : ∃ N', N = N' + 1 := ⟨N - 1, by omega⟩
    have hk' : k = R := by omega
    subst hk'
    have e4 := C.2.2.2.2.2.1.1
    refine ⟨s, ?_, C, Fr.rf, fun _ _ => rfl⟩
    rw [f_M_pass_b86]
    simp (disch := omega) only [Option.bind_some, Nat.reduceEqDiff, Nat.add_zero, Nat.zero_add, Nat.reduceLT, Nat.reduceLeDiff, Nat.reduceAdd, Nat.reduceSub, Nat.reduceMul, Nat.reduceDiv, Nat.lt_irrefl, Nat.not_lt_zero, Nat.zero_le, Nat.one_ne_zero, Nat.succ_ne_zero,  lt_def, i32_lit, reduceIte, P_isIn_eq, M_isIn_eq, M_goes_eq, or_false, false_or, or_true, true_or, and_true, true_and, and_false, false_and, not_true, not_false_eq_true, eq_self, if_true, if_false, not_or, not_and, Nat.not_lt, Nat.not_le, e4, Int32.le_refl, io_add]
  | succ j ih =>
    intro k N s hk hN C
    obtain ⟨N, rfl⟩ : ∃ N', N = N' + 1 := ⟨N - 1, by omega⟩
    obtain ⟨s1, e1, C1, f1, j1⟩ := C.step (F := F) (N := N) (K := K) (l1 := l1) (l2 := l2) (l3 := io l3) hF (G.steps hn k (by omega)) hn (by omega)
    obtain ⟨s2, e2, C2, f2, j2⟩ := ih (k + 1) N s1 (by omega) (by omega) C1
    exact ⟨s2, e1.trans e2, C2, f1.trans f2, fun k hk => (j2 k hk).trans (j1 k hk)⟩
theorem MI.hours {F m n R p c0 : Nat} (hF : 5000 ≤ F) {L : Nat → LR} {y : GS} (G : GF L m n R y) (hn : n ≤ 8) (hp : yh y + p ≤ 1000) (hc0 : c0 ≤ yc y) : ∀ j k N s, k + j = p → j < N → MI L m n R s (gP L m n R y k) → ∃ s', f_M_pass_b47 F N s (io p) (io c0) (io k) = some (io (yc (gP L m n R y p) - c0), s') ∧ MI L m n R s' (gP L m n R y p) ∧ Fr EIq EAq s s' ∧ ∀ k, k ≠ 50 → gJ s' k = gJ s k := by
  intro j
  induction j with
  | zero =>
    intro k N s hk hN C
    obtain ⟨N, rfl⟩ : ∃ N', N = N' + 1 := ⟨N - 1, by omega⟩
    have hk' : k = p := by omega
    subst hk'
    have e46 : gI s 2546 = io (yc (gP L m n R y k)) := C.2.2.2.2.1.1
    have hcc := (gP_h (L := L) (m := m) (n := n) (R := R) (y := y) k).2.2
    refine ⟨s, ?_, C, Fr.rf, fun _ _ => rfl⟩
    rw [f_M_pass_b47]
    simp (disch := omega) only [Option.bind_some, Nat.reduceEqDiff, Nat.add_zero, Nat.zero_add, Nat.reduceLT, Nat.reduceLeDiff, Nat.reduceAdd, Nat.reduceSub, Nat.reduceMul, Nat.reduceDiv, Nat.lt_irrefl, Nat.not_lt_zero, Nat.zero_le, Nat.one_ne_zero, Nat.succ_ne_zero,  lt_def, i32_lit, reduceIte, P_isIn_eq, M_isIn_eq, M_goes_eq, or_false, false_or, or_true, true_or, and_true, true_and, and_false, false_and, not_true, not_false_eq_true, eq_self, if_true, if_false, not_or, not_and, Nat.not_lt, Nat.not_le, Int32.le_refl, e46, io_sub]
  | succ j ih =>
    intro k N s hk hN C
    obtain ⟨N, rfl⟩ : ∃ N', N = N' + 1 := ⟨N - 1, by omega⟩
    have eh := (gP_h (L := L) (m := m) (n := n) (R := R) (y := y) k).1
    have Gk := G.hours hn k (by omega)
    have hR := G.2.2.2.2.2.1.1
    obtain ⟨s1, hor, C1, f1, j1⟩ := C.begin (F := F) hF Gk hn (by omega)
    obtain ⟨s2, e2, C2, f2, j2⟩ := MI.steps (F := F) (K := f_M_pass_b47 F N) (l1 := io p) (l2 := io c0) (l3 := k) hF hn (Gk.begin hn (by omega)) R 0 F s1 (by omega) (by omega) C1
    obtain ⟨s3, e3, C3, f3, j3⟩ := ih (k + 1) N s2 (by omega) (by omega) C2
    have q1 : ¬ p ≤ k := by omega
    have c1 := C.1
    refine ⟨s3, ?_, C3, f1.trans (f2.trans f3), fun k hk => ((j3 k hk).trans (j2 k hk)).trans (j1 k hk)⟩
    rw [← e3, ← e2, f_M_pass_b47]
    generalize hy : yh (gP L m n R y k) = hh at *
    rcases hor with ⟨h8, hb⟩ | ⟨h8, hb⟩
    · have hm8 : hh + 1 - (hh + 1) / 8 * 8 = 0 := by omega
      simp (disch := omega) only [Option.bind_some, Nat.reduceEqDiff, Nat.add_zero, Nat.zero_add, Nat.reduceLT, Nat.reduceLeDiff, Nat.reduceAdd, Nat.reduceSub, Nat.reduceMul, Nat.reduceDiv, Nat.lt_irrefl, Nat.not_lt_zero, Nat.zero_le, Nat.one_ne_zero, Nat.succ_ne_zero,  lt_def, i32_lit, reduceIte, P_isIn_eq, M_isIn_eq, M_goes_eq, or_false, false_or, or_true, true_or, and_true, true_and, and_false, false_and, not_true, not_false_eq_true, eq_self, if_true, if_false, not_or, not_and, Nat.not_lt, Nat.not_le, io_le, q1, c1, io_add, gI_sI, io_div, io_mul, io_sub, hm8, io_eq, hb]
    · have hm8 : ¬ hh + 1 - (hh + 1) / 8 * 8 = 0 := by omega
      rw [hb]
      simp (disch := omega) only [Option.bind_some, Nat.reduceEqDiff, Nat.add_zero, Nat.zero_add, Nat.reduceLT, Nat.reduceLeDiff, Nat.reduceAdd, Nat.reduceSub, Nat.reduceMul, Nat.reduceDiv, Nat.lt_irrefl, Nat.not_lt_zero, Nat.zero_le, Nat.one_ne_zero, Nat.succ_ne_zero,  lt_def, i32_lit, reduceIte, P_isIn_eq, M_isIn_eq, M_goes_eq, or_false, false_or, or_true, true_or, and_true, true_and, and_false, false_and, not_true, not_false_eq_true, eq_self, if_true, if_false, not_or, not_and, Nat.not_lt, Nat.not_le, io_le, q1, c1, io_add, gI_sI, io_div, io_mul, io_sub, hm8, io_eq]
