/-! hours that come: the class -/
def CI (L : Nat → LR) (m n R : Nat) (s : St) (y : GS) : Prop := gI s 2 = io (yh y) ∧ PEc s n ∧ ROc s (yg y) ∧ DBc s (yg y) (yd y) ∧ ALc s (ya y) (yc y) (yw y) ∧ RUc s (yu y) R ∧ LGc s L m ∧ ∃ vs, TLw s vs
def EIp : List Nat := [2, 774, 1157, 1158, 201, 1985, 1987, 1988, 1989]
def EAp : List Nat := [15, 16, 17, 19, 20, 21, 22, 11, 32, 33]
theorem PEc.fy {eI eA : List Nat} {s s' : St} {n : Nat} (P : PEc s n) (f : FY eI eA s s') (d : 768 ∉ eI := by decide) : PEc s' n := ⟨P.1, (f.1 768 d).trans P.2⟩
theorem ROc.fy {eI eA : List Nat} {s s' : St} {g : RG} (P : ROc s g) (f : FY eI eA s s') (d1 : 13 ∉ eA := by decide) (d2 : 14 ∉ eA := by decide) (d3 : 15 ∉ eA := by decide) : ROc s' g := fun j hj => by
  have e1 : gA s' 13 = gA s 13 := f.2.1 13 d1
  have e2 : gA s' 14 = gA s 14 := f.2.1 14 d2
  have e3 : gA s' 15 = gA s 15 := f.2.1 15 d3
  rw [e1, e2, e3]; exact P j hj
theorem DBc.fy {eI eA : List Nat} {s s' : St} {g : RG} {d : Nat} (P : DBc s g d) (f : FY eI eA s s') (d1 : 774 ∉ eI := by decide) (d2 : 16 ∉ eA := by decide) (d3 : 17 ∉ eA := by decide) : DBc s' g d := by
  have e1 : gI s' 774 = gI s 774 := f.1 774 d1
  have e2 : gA s' 16 = gA s 16 := f.2.1 16 d2
  have e3 : gA s' 17 = gA s 17 := f.2.1 17 d3
  unfold DBc
  rw [e1, e2, e3]; exact P
theorem ALc.fy {eI eA : List Nat} {s s' : St} {a : AG} {c w : Nat} (P : ALc s a c w) (f : FY eI eA s s') (d1 : 1157 ∉ eI := by decide) (d2 : 1158 ∉ eI := by decide) (d3 : ∀ k ∈ [19, 20, 21, 22, 23], k ∉ eA := by decide) : ALc s' a c w := by
  have e1 : gI s' 1157 = gI s 1157 := f.1 1157 d1
  have e2 : gI s' 1158 = gI s 1158 := f.1 1158 d2
  have e3 : gA s' 19 = gA s 19 := f.2.1 19 (d3 19 (by decide))
  have e4 : gA s' 20 = gA s 20 := f.2.1 20 (d3 20 (by decide))
  have e5 : gA s' 21 = gA s 21 := f.2.1 21 (d3 21 (by decide))
  have e6 : gA s' 22 = gA s 22 := f.2.1 22 (d3 22 (by decide))
  have e7 : gA s' 23 = gA s 23 := f.2.1 23 (d3 23 (by decide))
  unfold ALc
  rw [e1, e2, e3, e4, e5, e6, e7]; exact P
theorem Fr.fy {eI eA : List Nat} {s s' : St} (f : Fr eI eA s s') : FY eI eA s s' := f.fx.swD
theorem FY.trans {eI eA : List Nat} {s s1 s2 : St} (h : FY eI eA s s1) (h2 : FY eI eA s1 s2) : FY eI eA s s2 := ⟨fun k hk => (h2.1 k hk).trans (h.1 k hk), fun k hk => (h2.2.1 k hk).trans (h.2.1 k hk), rfl, rfl, Nat.le_trans h.2.2.2.2 h2.2.2.2.2⟩
theorem FY.wide {eI eA eI' eA' : List Nat} {s s1 : St} (h : FY eI eA s s1) (h1 : ∀ k ∈ eI, k ∈ eI') (h2 : ∀ k ∈ eA, k ∈ eA') : FY eI' eA' s s1 := Fr.wide h h1 h2
/-- the class: the hour begins -/
theorem P_hold2g {F h n j : Nat} {s : St} {g : RG} (R : ROc s g) (hj : j < 126) : f_Rota_holderOf F s (io j) = some (gho g j, s) := by
  have h1 : ¬ 125 < j := by omega
  have e := (R j hj).2.2
  simp (disch := omega) only [f_Rota_holderOf, Option.bind_some, Nat.reduceEqDiff, Nat.add_zero, Nat.zero_add, Nat.reduceLT, Nat.reduceLeDiff, Nat.reduceAdd, Nat.reduceSub, Nat.reduceMul, Nat.reduceDiv, Nat.lt_irrefl, Nat.not_lt_zero, Nat.zero_le, Nat.one_ne_zero, Nat.succ_ne_zero,  lt_def, i32_lit, reduceIte, P_isIn_eq, M_isIn_eq, M_goes_eq, or_false, false_or, or_true, true_or, and_true, true_and, and_false, false_and, not_true, not_false_eq_true, eq_self, if_true, if_false, not_or, not_and, Nat.not_lt, Nat.not_le, io_lt, h1, io_eq, ix_io, e]
theorem CI.begin {F m n R : Nat} (hF : 5000 ≤ F) {L : Nat → LR} {s : St} {y : GS} (C : CI L m n R s y) (G : GF L m n R y) (hn : n ≤ 8) (h1 : yh y + 1 ≤ 1000) : ∃ s', f_P_comeHour F s = f_P_comeHour_b57 F F s' (io (yh (gB n y) / 8)) (io 0) ∧ CI L m n R s' (gB n y) ∧ FY EIp EAp s s' := by
  obtain ⟨c1, c2, c3, c4, c5, c6, c7, vs, c8⟩ := C
  obtain ⟨a1, a2, a3, a4, a5, a6, a7, a8, a9⟩ := G
  have hj : (yh y + 1) / 8 < 126 := by omega
  obtain ⟨s1, hs1⟩ : ∃ s1, s1 = sI s 2 (io (yh y + 1)) := ⟨_, rfl⟩
  have f1 : Fr [2] [] s s1 := by rw [hs1]; exact Fr.rf.I (by decide)
  have e2 : gI s1 2 = io (yh y + 1) := by rw [hs1, gI_sI, if_pos rfl]
  unfold gB
  by_cases h8 : (yh y + 1) % 8 = 0
  · rw [if_pos h8]
    have hm8 : yh y + 1 - (yh y + 1) / 8 * 8 = 0 := by omega
    obtain ⟨s2, b1, b2, b3, b4⟩ := P_begin (F := F) hF (c2.fy f1.fy) (c3.fy f1.fy) a2 (c4.fy f1.fy) a3 hj
    have hnob := hold2_nob (d := yd y) a2 a3 hj hn
    have hho := P_hold2g (F := F) (h := 0) (n := 0) b2 hj
    have e3 : gho (gbeg (yg y) n (yd y) ((yh y + 1) / 8)) ((yh y + 1) / 8) = hold2 (yg y) n (yd y) ((yh y + 1) / 8) := by
      rw [gbeg_ho]
      exact if_pos rfl
    rw [e3] at hho
    have e22 : gI s2 2 = io (yh y + 1) := by rw [b4.gi 2 (by decide)]; exact e2
    obtain ⟨s3, w1, w2, w3⟩ := P_wake (F := F) (h := yh y + 1) hF ((c5.fy f1.fy).fy b4.fy) (a4.hr (Nat.le_succ _)) hn hnob
    have e23 : gI s3 2 = io (yh y + 1) := by rw [w3.gi 2 (by decide)]; exact e22
    have f3 : Fr EIp EAp s s3 := (f1.wide (by decide) (by decide)).trans ((b4.wide (by decide) (by decide)).trans (w3.wide (by decide) (by decide)))
    have f23 : Fr [774, 1158] [15, 16, 17, 21, 22] s1 s3 := (b4.wide (by decide) (by decide)).trans (w3.wide (by decide) (by decide))
    refine ⟨s3, ?_, ⟨e23, (c2.fy f3.fy), b2.fy w3.fy, b3.fy w3.fy, w2, (c6.fr f1).fr f23, c7.fr f3, vs, TLw.fr (TLw.fr c8 f1) f23⟩, f3.fy⟩
    simp (disch := omega) only [f_P_comeHour, Option.bind_some, Nat.reduceEqDiff, Nat.add_zero, Nat.zero_add, Nat.reduceLT, Nat.reduceLeDiff, Nat.reduceAdd, Nat.reduceSub, Nat.reduceMul, Nat.reduceDiv, Nat.lt_irrefl, Nat.not_lt_zero, Nat.zero_le, Nat.one_ne_zero, Nat.succ_ne_zero,  lt_def, i32_lit, reduceIte, P_isIn_eq, M_isIn_eq, M_goes_eq, or_false, false_or, or_true, true_or, and_true, true_and, and_false, false_and, not_true, not_false_eq_true, eq_self, if_true, if_false, not_or, not_and, Nat.not_lt, Nat.not_le, c1, io_add, ← hs1, e2, io_div, io_mul, io_sub, hm8, io_eq, b1, hho, e22, w1]
    rfl
  · rw [if_neg h8]
    have hm8 : ¬ yh y + 1 - (yh y + 1) / 8 * 8 = 0 := by omega
    refine ⟨s1, ?_, ⟨e2, c2.fy f1.fy, c3.fy f1.fy, c4.fy f1.fy, c5.fy f1.fy, c6.fr f1, c7.fr f1, vs, TLw.fr c8 f1⟩, (f1.wide (by decide) (by decide)).fy⟩
    simp (disch := omega) only [f_P_comeHour, Option.bind_some, Nat.reduceEqDiff, Nat.add_zero, Nat.zero_add, Nat.reduceLT, Nat.reduceLeDiff, Nat.reduceAdd, Nat.reduceSub, Nat.reduceMul, Nat.reduceDiv, Nat.lt_irrefl, Nat.not_lt_zero, Nat.zero_le, Nat.one_ne_zero, Nat.succ_ne_zero,  lt_def, i32_lit, reduceIte, P_isIn_eq, M_isIn_eq, M_goes_eq, or_false, false_or, or_true, true_or, and_true, true_and, and_false, false_and, not_true, not_false_eq_true, eq_self, if_true, if_false, not_or, not_and, Nat.not_lt, Nat.not_le, c1, io_add, ← hs1, e2, io_div, io_mul, io_sub, hm8, io_eq]
    rfl
theorem CI.room {L : Nat → LR} {m n R k : Nat} {y : GS} (G : GI L m n R y k) (hk : k < R) (hd : ud (yu y k) = 0) : ul (yu y k) ≤ yh y := by
  obtain ⟨a0, a1, a2, a3, a4, a5, a6, b1, b2, a8, a9⟩ := G
  have h2 := b2 k hk
  have hm := b1 k hk
  rw [if_neg (Nat.lt_irrefl k)] at h2
  have e : uend (yu y k) (yh y - 1) = yh y - 1 := if_pos hd
  rw [e] at h2
  have h3 := rcn_l (L := L) (m := m) (x := yu y k) (yh y - 1 - um (yu y k))
  rw [h2] at h3
  have h3' : ul (yu y k) ≤ um (yu y k) + (yh y - 1 - um (yu y k)) + 1 := h3
  omega
/-- the class: one rule's cell, when it rises -/
theorem rise_cell {s : St} {u : Nat → RU} {R h n k H : Nat} (C : RUc s u R) (G : RUg u R h n) (hk : k < R) {o oa ob : (Nat → Int32) × (Nat → Option Nat) × (Nat → Int64)} {sa sb : St} (kD : gD s (uq (u k)) = some (.inl (6, o))) (eoa : oa = (ups o.1 10 (io H), o.2)) (esa : sa = sF s (uq (u k), o) 6 oa) (eob : ob = (ups oa.1 9 (io (un (u k) + 1)), oa.2)) (esb : sb = sF sa (uq (u k), oa) 6 ob) : RUc sb (ups u k (uRise (u k) H)) R := by
  obtain ⟨ga, fa, za, ia⟩ := gF esa
  obtain ⟨gb, fb, zb, ib⟩ := gF esb
  obtain ⟨a1, o', g6, g7, nq, a2, a3, a4, a5, a6, a7, a8, a9, a10, a11, a12, a13, a14, a15, a16, a17⟩ := (C.2 k hk).2
  rw [kD] at a2
  cases a2
  have hq : uq (uRise (u k) H) = uq (u k) := rfl
  have nm : NM s sb := ⟨by rw [zb, za]; exact Nat.le_refl _, fun p o2 hp hp2 => by
    by_cases e : p = uq (u k)
    · rw [e, kD] at hp2; cases hp2
    · rw [fb p e, fa p e]; exact hp2⟩
  refine C.upd G hk hq (fun p hp hps => ?_) nm (by rw [ib.1, ia.1]) (by rw [ib.2.2.2, ia.2.2.2]) ?_
  · rw [hq] at hp
    rw [fb p (by omega), fa p (by omega)]
  · have o9 : ob.1 9 = io (un (u k) + 1) := by
      rw [eob]
      show (if 9 = 9 then io (un (u k) + 1) else oa.1 9) = _
      rw [if_pos rfl]
    have oo : ∀ j, j ≠ 9 → j ≠ 10 → ob.1 j = o.1 j := fun j h1 h2 => by
      rw [eob, eoa]
      show (if j = 9 then _ else if j = 10 then _ else o.1 j) = _
      rw [if_neg h1, if_neg h2]
    have o10 : ob.1 10 = io H := by
      rw [eob, eoa]
      show (if 10 = 9 then io (un (u k) + 1) else if 10 = 10 then io H else o.1 10) = _
      rw [if_neg (by decide), if_pos rfl]
    have o2 : ob.2 = o.2 := by rw [eob, eoa]
    refine ⟨by rw [hq, zb, za]; exact a1, ob, g6, g7, nq, by rw [hq]; exact gb, by rw [hq, fb _ (by omega), fa _ (by omega)]; exact a3, by rw [hq, fb _ (by omega), fa _ (by omega)]; exact a4, ?_⟩
    refine ⟨(oo 1 (by decide) (by decide)).trans a5, (oo 2 (by decide) (by decide)).trans a6, (oo 3 (by decide) (by decide)).trans a7, (oo 4 (by decide) (by decide)).trans a8, (oo 5 (by decide) (by decide)).trans a9, (oo 8 (by decide) (by decide)).trans a10, o9, ?_, by rw [o2]; exact a13, by rw [o2]; exact a14, by rw [o2]; exact a15, TQ.nm nm _ _ _ a16, a17⟩
    show ob.1 10 = dn (H + 1)
    rw [dn_succ]; exact o10
theorem CI.step {F m n R k N : Nat} (hF : 5000 ≤ F) {L : Nat → LR} {s : St} {y : GS} (C : CI L m n R s y) (G : GI L m n R y k) (hn : n ≤ 8) (hk : k < R) : ∃ s', f_P_comeHour_b57 F (N + 1) s (io (yh y / 8)) (io k) = f_P_comeHour_b57 F N s' (io (yh y / 8)) (io (k + 1)) ∧ CI L m n R s' (gr1 L m y k) ∧ FY EIp EAp s s' := by
  have hroom := G.room hk
  have hul := CI.room G hk
  obtain ⟨c1, c2, c3, c4, c5, c6, c7, c8⟩ := C
  obtain ⟨a0, a1, a2, a3, a4, a5, a6, b1, b2, a8, a9⟩ := G
  have hR := a6.1
  obtain ⟨g1, g2, g3, g4, g5, g6, g7, g8, g9, g10, g11, g12, g13⟩ := a6.2.1 k hk
  obtain ⟨o, nq, d1, k1, k2, k3, k4, k5, k8, k9, k10, k0, k6, k7, kT, kD⟩ := (c6.2 k hk).2.dg
  have hne : ¬ some (uq (yu y k)) = none := by simp
  have hrt := ruleAt_t (F := F) c6 hR hk
  have n1 : ¬ R ≤ k := by omega
  have e4 := c6.1
  unfold gr1
  by_cases hd : ud (yu y k) = 0
  · have k5' : o.1 5 = -io 1 := by rw [k5, hd]; rfl
    obtain ⟨s1, e1, f1, T1⟩ := P_isDue (F := F) (th := yh y) hF c7 a9 (by omega) (c6.2 k hk).2 ⟨g4, g5⟩ g6 g9 g10 a0 a1 (hul hd) c8
    by_cases hc : dueB L m (yu y k) (yh y) (ul (yu y k)) = true
    · rw [if_pos ⟨hd, hc⟩]
      rw [if_pos hc] at e1
      obtain ⟨r1, r2⟩ := hroom hd
      have kD1 : gD s1 (uq (yu y k)) = some (.inl (6, o)) := by rw [f1.2.2.2.1]; exact kD
      obtain ⟨oa, eoa⟩ : ∃ oa, oa = (ups o.1 10 (io (yh y)), o.2) := ⟨_, rfl⟩
      obtain ⟨sa, esa⟩ : ∃ sa, sa = sF s1 (uq (yu y k), o) 6 oa := ⟨_, rfl⟩
      obtain ⟨ob, eob⟩ : ∃ ob, ob = (ups oa.1 9 (io (un (yu y k) + 1)), oa.2) := ⟨_, rfl⟩
      obtain ⟨sb, esb⟩ : ∃ sb, sb = sF sa (uq (yu y k), oa) 6 ob := ⟨_, rfl⟩
      have hcell := rise_cell (c6.fr f1) a6 hk kD1 eoa esa eob esb
      obtain ⟨ga, fa, za, ia⟩ := gF esa
      obtain ⟨gb, fb, zb, ib⟩ := gF esb
      have oa9 : oa.1 9 = io (un (yu y k)) := by
        rw [eoa]
        show (if 9 = 10 then io (yh y) else o.1 9) = _
        rw [if_neg (by decide)]; exact k9
      have fab : FY [] [] s1 sb := ⟨fun j _ => by show gI sb j = _; rw [ib.1, ia.1], fun j _ => by show gA sb j = _; rw [ib.2.1, ia.2.1], rfl, rfl, by show sz s1 ≤ sz sb; rw [zb, za]; exact Nat.le_refl _⟩
      have fs1 : FY EID EAD s s1 := f1.fy
      have e2 : gI s1 2 = io (yh y) := by rw [f1.gi 2 (by decide)]; exact c1
      have e2b : gI sb 2 = io (yh y) := by rw [ib.1, ia.1]; exact e2
      obtain ⟨s2, p1, p2, p3⟩ := P_add (F := F) (q := k) ((c5.fy fs1).fy fab) a4 r1
      have hnob : nob n (gho (yg y) (yh y / 8)) := (a2 (yh y / 8) (by omega)).2.2.1
      have hho := P_hold2g (F := F) (h := 0) (n := 0) (((c3.fy fs1).fy fab).fy p3.fy) (show yh y / 8 < 126 by omega)
      obtain ⟨s3, w1, w2, w3⟩ := P_wake (F := F) hF p2 (a4.new r1 hk a0) hn hnob
      have e22 : gI s2 2 = io (yh y) := by rw [p3.gi 2 (by decide)]; exact e2b
      have e23 : gI s3 2 = io (yh y) := by rw [w3.gi 2 (by decide)]; exact e22
      have f23 : Fr [1157, 1158] [19, 20, 21, 22] sb s3 := (p3.wide (by decide) (by decide)).trans (w3.wide (by decide) (by decide))
      have fall : FY EIp EAp s s3 := (FY.wide fs1 (by decide) (by decide)).trans ((FY.wide fab (by decide) (by decide)).trans (f23.wide (by decide) (by decide)).fy)
      obtain ⟨vs, T1⟩ := T1
      have T1b : TLw sb vs := TLw.fy T1 fab
      refine ⟨s3, ?_, ⟨e23, c2.fy fall, ((c3.fy fs1).fy fab).fy f23.fy, ((c4.fy fs1).fy fab).fy f23.fy, w2, hcell.fr f23, c7.fy fall, vs, T1b.fr f23⟩, fall⟩
      have dgs1 : dgo s1 (some (uq (yu y k))) 6 = some (uq (yu y k), o) := dgo_at kD1
      rw [f_P_comeHour_b57]
      simp (disch := omega) only [f_Rule_isDropped, Option.bind_some, Nat.reduceEqDiff, Nat.add_zero, Nat.zero_add, Nat.reduceLT, Nat.reduceLeDiff, Nat.reduceAdd, Nat.reduceSub, Nat.reduceMul, Nat.reduceDiv, Nat.lt_irrefl, Nat.not_lt_zero, Nat.zero_le, Nat.one_ne_zero, Nat.succ_ne_zero,  lt_def, i32_lit, reduceIte, P_isIn_eq, M_isIn_eq, M_goes_eq, or_false, false_or, or_true, true_or, and_true, true_and, and_false, false_and, not_true, not_false_eq_true, eq_self, if_true, if_false, not_or, not_and, Nat.not_lt, Nat.not_le, e4, io_le, n1, hrt, hne, d1, k5', c1, k10, e1, io_eq, dgs1, e2, ← eoa, ← esa, dgo_at ga, oa9, io_add, ← eob, ← esb, e2b, p1, hho, e22, w1]
    · rw [if_neg (fun h => hc h.2)]
      rw [if_neg hc] at e1
      have fs1 : FY EID EAD s s1 := f1.fy
      refine ⟨s1, ?_, ⟨by rw [f1.gi 2 (by decide)]; exact c1, c2.fy fs1, c3.fy fs1, c4.fy fs1, c5.fy fs1, c6.fr f1, c7.fr f1, T1⟩, FY.wide fs1 (by decide) (by decide)⟩
      rw [f_P_comeHour_b57]
      simp (disch := omega) only [f_Rule_isDropped, Option.bind_some, Nat.reduceEqDiff, Nat.add_zero, Nat.zero_add, Nat.reduceLT, Nat.reduceLeDiff, Nat.reduceAdd, Nat.reduceSub, Nat.reduceMul, Nat.reduceDiv, Nat.lt_irrefl, Nat.not_lt_zero, Nat.zero_le, Nat.one_ne_zero, Nat.succ_ne_zero,  lt_def, i32_lit, reduceIte, P_isIn_eq, M_isIn_eq, M_goes_eq, or_false, false_or, or_true, true_or, and_true, true_and, and_false, false_and, not_true, not_false_eq_true, eq_self, if_true, if_false, not_or, not_and, Nat.not_lt, Nat.not_le, e4, io_le, n1, hrt, hne, d1, k5', c1, k10, e1, io_eq, io_add]
  · rw [if_neg (fun h => hd h.1)]
    have k5' : o.1 5 = io (ud (yu y k) - 1) := by rw [k5]; exact dn_pos (by omega)
    refine ⟨s, ?_, ⟨c1, c2, c3, c4, c5, c6, c7, c8⟩, Fr.rf.fy⟩
    rw [f_P_comeHour_b57]
    simp (disch := omega) only [f_Rule_isDropped, Option.bind_some, Nat.reduceEqDiff, Nat.add_zero, Nat.zero_add, Nat.reduceLT, Nat.reduceLeDiff, Nat.reduceAdd, Nat.reduceSub, Nat.reduceMul, Nat.reduceDiv, Nat.lt_irrefl, Nat.not_lt_zero, Nat.zero_le, Nat.one_ne_zero, Nat.succ_ne_zero,  lt_def, i32_lit, reduceIte, P_isIn_eq, M_isIn_eq, M_goes_eq, or_false, false_or, or_true, true_or, and_true, true_and, and_false, false_and, not_true, not_false_eq_true, eq_self, if_true, if_false, not_or, not_and, Nat.not_lt, Nat.not_le, e4, io_le, n1, hrt, hne, d1, k5', io_neg1, io_eq, io_add]
theorem CI.steps {F m n R : Nat} (hF : 5000 ≤ F) {L : Nat → LR} {y : GS} (hn : n ≤ 8) (G : GI L m n R y 0) : ∀ j k N s, k + j = R → j < N → CI L m n R s (grs L m y k) → ∃ s', f_P_comeHour_b57 F N s (io (yh y / 8)) (io k) = some s' ∧ CI L m n R s' (grs L m y R) ∧ FY EIp EAp s s' := by
  intro j
  induction j with
  | zero =>
    intro k N s hk hN C
    obtain ⟨N, rfl⟩ : ∃ N', N = N' + 1 := ⟨N - 1, by omega⟩
    have hk' : k = R := by omega
    subst hk'
    have e4 := C.2.2.2.2.2.1.1
    have hR := G.2.2.2.2.2.2.1.1
    refine ⟨s, ?_, C, Fr.rf.fy⟩
    rw [f_P_comeHour_b57]
    simp (disch := omega) only [Option.bind_some, Nat.reduceEqDiff, Nat.add_zero, Nat.zero_add, Nat.reduceLT, Nat.reduceLeDiff, Nat.reduceAdd, Nat.reduceSub, Nat.reduceMul, Nat.reduceDiv, Nat.lt_irrefl, Nat.not_lt_zero, Nat.zero_le, Nat.one_ne_zero, Nat.succ_ne_zero,  lt_def, i32_lit, reduceIte, P_isIn_eq, M_isIn_eq, M_goes_eq, or_false, false_or, or_true, true_or, and_true, true_and, and_false, false_and, not_true, not_false_eq_true, eq_self, if_true, if_false, not_or, not_and, Nat.not_lt, Nat.not_le, e4, Int32.le_refl]
  | succ j ih =>
    intro k N s hk hN C
    obtain ⟨N, rfl⟩ : ∃ N', N = N' + 1 := ⟨N - 1, by omega⟩
    have eh := (gRs_h (L := L) (m := m) (y := y) k).1
    obtain ⟨s1, e1, C1, f1⟩ := C.step (F := F) (N := N) hF (G.steps hn k (by omega)) hn (by omega)
    rw [eh] at e1
    obtain ⟨s2, e2, C2, f2⟩ := ih (k + 1) N s1 (by omega) (by omega) C1
    exact ⟨s2, e1.trans e2, C2, f1.trans f2⟩
theorem CI.hour {F m n R : Nat} (hF : 5000 ≤ F) {L : Nat → LR} {s : St} {y : GS} (C : CI L m n R s y) (G : GF L m n R y) (hn : n ≤ 8) (h1 : yh y + 1 ≤ 1000) : ∃ s', f_P_comeHour F s = some s' ∧ CI L m n R s' (gH L m n R y) ∧ FY EIp EAp s s' := by
  have hR := G.2.2.2.2.2.1.1
  obtain ⟨s1, e1, C1, f1⟩ := C.begin (F := F) hF G hn h1
  obtain ⟨s2, e2, C2, f2⟩ := CI.steps (F := F) hF hn (G.begin hn h1) R 0 F s1 (by omega) (by omega) C1
  exact ⟨s2, e1.trans e2, C2, f1.trans f2⟩
theorem CI.hours {F Z m n R p c0 : Nat} (hF : 5000 ≤ F) {L : Nat → LR} {y : GS} (G : GF L m n R y) (hn : n ≤ 8) (hp : yh y + p ≤ 1000) (hc0 : c0 ≤ yc y) : ∀ j k N s, k + j = p → j < N → CI L m n R s (gP L m n R y k) → ∃ s', f_P_pass_b52 F Z N s (io p) (io c0) (io k) = some (.inl (io (yc (gP L m n R y p) - c0)), s') ∧ CI L m n R s' (gP L m n R y p) ∧ FY EIp EAp s s' := by
  intro j
  induction j with
  | zero =>
    intro k N s hk hN C
    obtain ⟨N, rfl⟩ : ∃ N', N = N' + 1 := ⟨N - 1, by omega⟩
    have hk' : k = p := by omega
    subst hk'
    have e57 : gI s 1157 = io (yc (gP L m n R y k)) := C.2.2.2.2.1.1
    have hcc := (gP_h (L := L) (m := m) (n := n) (R := R) (y := y) k).2.2
    refine ⟨s, ?_, C, Fr.rf.fy⟩
    rw [f_P_pass_b52]
    simp (disch := omega) only [Option.bind_some, Nat.reduceEqDiff, Nat.add_zero, Nat.zero_add, Nat.reduceLT, Nat.reduceLeDiff, Nat.reduceAdd, Nat.reduceSub, Nat.reduceMul, Nat.reduceDiv, Nat.lt_irrefl, Nat.not_lt_zero, Nat.zero_le, Nat.one_ne_zero, Nat.succ_ne_zero,  lt_def, i32_lit, reduceIte, P_isIn_eq, M_isIn_eq, M_goes_eq, or_false, false_or, or_true, true_or, and_true, true_and, and_false, false_and, not_true, not_false_eq_true, eq_self, if_true, if_false, not_or, not_and, Nat.not_lt, Nat.not_le, Int32.le_refl, e57, io_sub]
  | succ j ih =>
    intro k N s hk hN C
    obtain ⟨N, rfl⟩ : ∃ N', N = N' + 1 := ⟨N - 1, by omega⟩
    have eh := (gP_h (L := L) (m := m) (n := n) (R := R) (y := y) k).1
    obtain ⟨s1, e1, C1, f1⟩ := C.hour (F := F) hF (G.hours hn k (by omega)) hn (by omega)
    obtain ⟨s2, e2, C2, f2⟩ := ih (k + 1) N s1 (by omega) (by omega) C1
    have q1 : ¬ p ≤ k := by omega
    refine ⟨s2, ?_, C2, f1.trans f2⟩
    rw [f_P_pass_b52]
    simp (disch := omega) only [Option.bind_some, Nat.reduceEqDiff, Nat.add_zero, Nat.zero_add, Nat.reduceLT, Nat.reduceLeDiff, Nat.reduceAdd, Nat.reduceSub, Nat.reduceMul, Nat.reduceDiv, Nat.lt_irrefl, Nat.not_lt_zero, Nat.zero_le, Nat.one_ne_zero, Nat.succ_ne_zero,  lt_def, i32_lit, reduceIte, P_isIn_eq, M_isIn_eq, M_goes_eq, or_false, false_or, or_true, true_or, and_true, true_and, and_false, false_and, not_true, not_false_eq_true, eq_self, if_true, if_false, not_or, not_and, Nat.not_lt, Nat.not_le, io_le, q1, e1, io_add, e2]
