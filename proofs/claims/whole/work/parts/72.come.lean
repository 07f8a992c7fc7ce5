/-! hours that come: the class -/
def CI (L : Nat → LR) (m n R : Nat) (s : St) (y : GS) : Prop := gI s 2 = io (yh y) ∧ PEc s n ∧ ROc s (yg y) ∧ DBc s (yg y) (yd y) ∧ ALc s (ya y) (yc y) (yw y) ∧ RUc s (yu y) R ∧ LGc s L m ∧ ∃ vs, TLw s vs
def EIp : List Nat := [2, 774, 1157, 1158, 201, 1985, 1987, 1988, 1989]
def EAp : List Nat := [15, 16, 17, 19, 20, 21, 22, 11, 32, 33]
theorem PEc.fy {eI eA : List Nat} {s s' : St} {n : Nat} (P : PEc s n) (f : FY eI eA s s') (d : 768 ∉ eI := by decide) : PEc s' n := ⟨P.1, (f.1 768 d).trans P.2⟩
theorem ROc.fy {eI eA : List Nat} {s s' : St} {g : RG} (P : ROc s g) (f : FY eI eA s s') (d1 : 13 ∉ eA := by decide) (d2 : 14 ∉ eA := by decide) (d3 : 15 ∉ eA := by decide) : ROc s' g := fun j hj => by
  have e1 : gA s' 13 = gA s 13 := f.2.1 13 d1
  have e2 : gA s' 14 = gA s 14 := f.2.1 14 d2
  have e3 : gA s' 15 = gA s 15 := f.2.1 15 d3
  rw [e1, e2, e3]; exact P j hj
theorem DBc.fy {eI eA : List Nat} {s s' : St} {g : RG} {d : Nat} (P : DBc s g d) (f : FY eI eA s s') (d1 : 774 ∉ eI := by decide) (d2 : 16 ∉ eA := by decide) (d3 : 17 ∉ eA := by decide) : DBc s' g d := by
  have e1 : gI s' 774 = gI s 774 := f.1 774 d1
  have e2 : gA s' 16 = gA s 16 := f.2.1 16 d2
  have e3 : gA s' 17 = gA s 17 := f.2.1 17 d3
  unfold DBc
  rw [e1, e2, e3]; exact P
theorem ALc.fy {eI eA : List Nat} {s s' : St} {a : AG} {c w : Nat} (P : ALc s a c w) (f : FY eI eA s s') (d1 : 1157 ∉ eI := by decide) (d2 : 1158 ∉ eI := by decide) (d3 : ∀ k ∈ [19, 20, 21, 22, 23], k ∉ eA := by decide) : ALc s' a c w := by
  have e1 : gI s' 1157 = gI s 1157 := f.1 1157 d1
  have e2 : gI s' 1158 = gI s 1158 := f.1 1158 d2
  have e3 : gA s' 19 = gA s 19 := f.2.1 19 (d3 19 (by decide))
  have e4 : gA s' 20 = gA s 20 := f.2.1 20 (d3 20 (by decide))
  have e5 : gA s' 21 = gA s 21 := f.2.1 21 (d3 21 (by decide))
  have e6 : gA s' 22 = gA s 22 := f.2.1 22 (d3 22 (by decide))
  have e7 : gA s' 23 = gA s 23 := f.2.1 23 (d3 23 (by decide))
  unfold ALc
  rw [e1, e2, e3, e4, e5, e6, e7]; exact P
theorem Fr.fy {eI eA : List Nat} {s s' : St} (f : Fr eI eA s s') : FY eI eA s s' := f.fx.swD
theorem FY.trans {eI eA : List Nat} {s s1 s2 : St} (h : FY eI eA s s1) (h2 : FY eI eA s1 s2) : FY eI eA s s2 := ⟨fun k hk => (h2.1 k hk).trans (h.1 k hk), fun k hk => (h2.2.1 k hk).trans (h.2.1 k hk), rfl, rfl, Nat.le_trans h.2.2.2.2 h2.2.2.2.2⟩
theorem FY.wide {eI eA eI' eA' : List Nat} {s s1 : St} (h : FY eI eA s s1) (h1 : ∀ k ∈ eI, k ∈ eI') (h2 : ∀ k ∈ eA, k ∈ eA') : FY eI' eA' s s1 := Fr.wide h h1 h2
/-- the class: the hour begins -/
theorem P_hold2g {F h n j : Nat} {s : St} {g : RG} (R : ROc s g) (hj : j < 126) : f_Rota_holderOf F s (io j) = some (gho g j, s) := by
  have h1 : ¬ 125 < j := by omega
  have e := (R j hj).2.2
  simp (disch := omega) only [f_Rota_holderOf, Option.bind_some, Nat.reduceEqDiff, Nat.add_zero, Nat.zero_add, Nat.reduceLT, Nat.reduceLeDiff, Nat.reduceAdd, Nat.reduceSub, Nat.reduceMul, Nat.reduceDiv, Nat.lt_irrefl, Nat.not_lt_zero, Nat.zero_le, Nat.one_ne_zero, Nat.succ_ne_zero,  lt_def, i32_lit, reduceIte, P_isIn_eq, M_isIn_eq, M_goes_eq, or_false, false_or, or_true, true_or, and_true, true_and, and_false, false_and, not_true, not_false_eq_true, eq_self, if_true, if_false, not_or, not_and, Nat.not_lt, Nat.not_le, io_lt, h1, io_eq, ix_io, e]
theorem CI.begin {F m n R : Nat} (hF : 5000 ≤ F) {L : Nat → LR} {s : St} {y : GS} (C : CI L m n R s y) (G : GF L m n R y) (hn : n ≤ 8) (h1 : yh y + 1 ≤ 1000) : ∃ s', f_P_comeHour F s = f_P_comeHour_b57 F F s' (io (yh (gB n y) / 8)) (io 0) ∧ CI L m n R s' (gB n y) ∧ FY EIp EAp s s' := by
  obtain ⟨c1, c2, c3, c4, c5, c6, c7, vs, c8⟩ := C
  obtain ⟨a1, a2, a3, a4, a5, a6, a7, a8, a9⟩ := G
  have hj : (yh y + 1) / 8 < 126 := by omega
  obtain ⟨s1, hs1⟩ : ∃ s1, s1 = sI s 2 (io (yh y + 1)) := ⟨_, rfl⟩
  have f1 : Fr [2] [] s s1 := by rw [hs1]; exact Fr.rf.I (by decide)
  have e2 : gI s1 2 = io (yh y + 1) := by rw [hs1, gI_sI, if_pos rfl]
  unfold gB
  by_cases h8 : (yh y + 1) % 8 = 0
  · rw [if_pos h8]
    have hm8 : yh y + 1 - (yh y + 1) / 8 * 8 = 0 := by omega
    obtain ⟨s2, b1, b2, b3, b4⟩ := P_begin (F := F) hF (c2.fy f1.fy) (c3.fy f1.fy) a2 (c4.fy f1.fy) a3 hj
    have hnob := hold2_nob (d := yd y) a2 a3 hj hn
    have hho := P_hold2g (F := F) (h := 0) (n := 0) b2 hj
    have e3 : gho (gbeg (yg y) n (yd y) ((yh y + 1) / 8)) ((yh y + 1) / 8) = hold2 (yg y) n (yd y) ((yh y + 1) / 8) := by
      rw [gbeg_ho]
      exact if_pos rfl
    rw [e3] at hho
    have e22 : gI s2 2 = io (yh y + 1) := by rw [b4.gi 2 (by decide)]; exact e2
    obtain ⟨s3, w1, w2, w3⟩ := P_wake (F := F) (h := yh y + 1) hF ((c5.fy f1.fy).fy b4.fy) (a4.hr (Nat.le_succ _)) hn hnob
    have e23 : gI s3 2 = io (yh y + 1) := by rw [w3.gi 2 (by decide)]; exact e22
    have f3 : Fr EIp EAp s s3 := (f1.wide (by decide) (by decide)).trans ((b4.wide (by decide) (by decide)).trans (w3.wide (by decide) (by decide)))
    have f23 : Fr [774, 1158] [15, 16, 17, 21, 22] s1 s3 := (b4.wide (by decide) (by decide)).trans (w3.wide (by decide) (by decide))
    refine ⟨s3, ?_, ⟨e23, (c2.fy f3.fy), b2.fy w3.fy, b3.fy w3.fy, w2, (c6.fr f1).fr f23, c7.fr f3, vs, TLw.fr (TLw.fr c8 f1) f23⟩, f3.fy⟩
    simp (disch := omega) only [f_P_comeHour, Option.bind_some, Nat.reduceEqDiff, Nat.add_zero, Nat.zero_add, Nat.reduceLT, Nat.reduceLeDiff, Nat.reduceAdd, Nat.reduceSub, Nat.reduceMul, Nat.reduceDiv, Nat.lt_irrefl, Nat.not_lt_zero, Nat.zero_le, Nat.one_ne_zero, Nat.succ_ne_zero,  lt_def, i32_lit, reduceIte, P_isIn_eq, M_isIn_eq, M_goes_eq, or_false, false_or, or_true, true_or, and_true, true_and, and_false, false_and, not_true, not_false_eq_true, eq_self, if_true, if_false, not_or, not_and, Nat.not_lt, Nat.not_le, c1, io_add, ← hs1, e2, io_div, io_mul, io_sub, hm8, io_eq, b1, hho, e22, w1]
    rfl
  · rw [if_neg h8]
    have hm8 : ¬ yh y + 1 - (yh y + 1) / 8 * 8 = 0 := by omega
    refine ⟨s1, ?_, ⟨e2, c2.fy f1.fy, c3.fy f1.fy, c4.fy f1.fy, c5.fy f1.fy, c6.fr f1, c7.fr f1, vs, TLw.fr c8 f1⟩, (f1.wide (by decide) (by decide)).fy⟩
    simp (disch := omega) only [f_P_comeHour, Option.bind_some, Nat.reduceEqDiff, Nat.add_zero, Nat.zero_add, Nat.reduceLT, Nat.reduceLeDiff, Nat.reduceAdd, Nat.reduceSub, Nat.reduceMul, Nat.reduceDiv, Nat.lt_irrefl, Nat.not_lt_zero, Nat.zero_le, Nat.one_ne_zero, Nat.succ_ne_zero,  lt_def, i32_lit, reduceIte, P_isIn_eq, M_isIn_eq, M_goes_eq, or_false, false_or, or_true, true_or, and_true, true_and, and_false, false_and, not_true, not_false_eq_true, eq_self, if_true, if_false, not_or, not_and, Nat.not_lt, Nat.not_le, c1, io_add, ← hs1, e2, io_div, io_mul, io_sub, hm8, io_eq]
    rfl
