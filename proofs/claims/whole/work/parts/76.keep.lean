/-! what always holds -/
theorem an1_fr {eI eA : List Nat} {s s' : St} (f : Fr eI eA s s') (d : 23 ∉ eA := by decide) : an1 s' = an1 s := by
  funext j
  unfold an1
  rw [f.ga 23 d]
theorem RG1.pp {x : RU} {h n n' : Nat} (G : RG1 h n x) (hn : n ≤ n') : RG1 h n' x := by
  obtain ⟨g1, g2, g3, g4, g5, g6, g7, g8, g9, g10, g11, g12, g13⟩ := G
  exact ⟨g1, g2, by omega, g4, g5, g6, g7, g8, g9, g10, g11, g12, g13⟩
theorem RUg.pp {u : Nat → RU} {R h n n' : Nat} (G : RUg u R h n) (hn : n ≤ n') : RUg u R h n' := ⟨G.1, fun r hr => (G.2.1 r hr).pp hn, G.2.2⟩
/-! a late log changes no past hour -/
theorem lins_ev {L : Nat → LR} {x : Nat} {r : LR} {P : LR → Bool} (hP : P r = false) : ∀ d, ((List.range (x + d + 1)).filter (fun k => P (lins L x r k))).map (fun k => rec1 (lins L x r k)) = ((List.range (x + d)).filter (fun k => P (L k))).map (fun k => rec1 (L k)) := by
  intro d
  induction d with
  | zero =>
    have hx : lins L x r x = r := by unfold lins; rw [if_neg (by omega), if_pos rfl]
    have hk : ∀ k, k < x → lins L x r k = L k := fun k hk => by unfold lins; rw [if_pos hk]
    rw [Nat.add_zero, List.range_succ, List.filter_append, List.map_append]
    have e : List.filter (fun k => P (lins L x r k)) [x] = [] := by
      rw [List.filter_cons_of_neg (by rw [hx, hP]; simp)]; rfl
    rw [e, List.map_nil, List.append_nil]
    have e2 : List.filter (fun k => P (lins L x r k)) (List.range x) = List.filter (fun k => P (L k)) (List.range x) := List.filter_congr (fun k hk2 => by rw [hk k (List.mem_range.mp hk2)])
    rw [e2]
    exact List.map_congr_left (fun k hk2 => by rw [hk k (List.mem_range.mp (List.mem_filter.mp hk2).1)])
  | succ d ih =>
    have hx : lins L x r (x + d + 1) = L (x + d) := by
      unfold lins; rw [if_neg (by omega), if_neg (by omega)]; rfl
    have e1 : x + (d + 1) = x + d + 1 := by omega
    rw [e1, List.range_succ (n := x + d + 1), List.filter_append, List.map_append, ih, List.range_succ (n := x + d), List.filter_append, List.map_append]
    congr 1
    by_cases hq : P (L (x + d)) = true
    · rw [List.filter_cons_of_pos (by rw [hx]; exact hq), List.filter_cons_of_pos (p := fun k => P (L k)) (a := x + d) hq]
      show [rec1 (lins L x r (x + d + 1))] = [rec1 (L (x + d))]
      rw [hx]
    · rw [List.filter_cons_of_neg (by rw [hx]; exact hq), List.filter_cons_of_neg (p := fun k => P (L k)) (a := x + d) hq]; rfl
theorem ev_late {L : Nat → LR} {x m h a b t : Nat} {r : LR} (hx : x ≤ m) (hr : rT r = h) (ht : t < h) : ev (lins L x r) (pks (lins L x r) (m + 1) a b t) = ev L (pks L m a b t) := by
  obtain ⟨d, rfl⟩ : ∃ d, m = x + d := ⟨m - x, by omega⟩
  exact lins_ev (L := L) (x := x) (r := r) (P := fun q => decide (a ≤ rH q ∧ rH q ≤ b ∧ rT q ≤ t)) (decide_eq_false (by omega)) d
theorem rcn_late {L : Nat → LR} {x m h : Nat} {r : LR} {y : RU} (hx : x ≤ m) (hr : rT r = h) : ∀ k, um y + k ≤ h → rcn (lins L x r) (m + 1) y k = rcn L m y k := by
  intro k
  induction k with
  | zero => intro _; rfl
  | succ k ih =>
    intro hk
    have hd : ∀ l, dueB (lins L x r) (m + 1) y (um y + k + 1) l = dueB L m y (um y + k + 1) l := fun l => by
      unfold dueB
      rw [ev_late hx hr (show um y + k + 1 - 1 < h by omega)]
    unfold rcn
    rw [ih (by omega), hd]
theorem HS.late {L : Nat → LR} {x m h n R : Nat} {r : LR} {u : Nat → RU} (H : HS L m u R h) (G : RUg u R h n) (hx : x ≤ m) (hr : rT r = h) : HS (lins L x r) (m + 1) u R h := fun q hq => by
  obtain ⟨g1, g2, g3, g4, g5, g6, g7, g8, g9, g10, g11, g12, g13⟩ := G.2.1 q hq
  rw [rcn_late hx hr _ ?_]
  · exact H q hq
  · unfold uend
    by_cases e : ud (u q) = 0
    · rw [if_pos e]; omega
    · rw [if_neg e]; omega
theorem IVg.frs {s s' : St} {h n d nt c w : Nat} {L : Nat → LR} {m : Nat} {u : Nat → RU} {R : Nat} (I : IVg s h n d nt c w L m u R) (f : Fr [201, 2550, 2551] [11] s s') : IV s' :=
  ⟨h, n, d, nt, c, w, L, m, u, R, I.fx f.fx (I.2.2.2.2.2.2.2.2.2.2.2.2.2.2.2.fx f.fx)⟩
theorem IVg.fxs {s s' : St} {h n d nt c w : Nat} {L : Nat → LR} {m : Nat} {u : Nat → RU} {R : Nat} (I : IVg s h n d nt c w L m u R) (f : FX EI9 EA9 s s') (S : RST s' u R) : IV s' :=
  ⟨h, n, d, nt, c, w, L, m, u, R, I.fx f S⟩
theorem IV0 : IV σi := by
  have hO : RO σi 0 0 := RO.join (g := (fun _ => -io 1, fun _ => 0, fun _ => -io 1, fun _ => 0, fun _ => 0)) (fun j hj => ⟨rfl, rfl, rfl⟩) (fun j hj => ⟨rfl, fun p hp => by
    unfold ofb
    show gA σi 56 (126 * p + j) = io (if (0 : Nat).testBit p = true then 1 else 0)
    rw [Nat.zero_testBit]; rfl, rfl⟩) (fun j hj => ⟨Or.inl rfl, (by decide : (0 : Nat) < 256), Or.inl rfl, fun _ => rfl⟩)
  have no : ∀ {P : Nat → Prop} (k : Nat), k < 0 → P k := fun k hk => absurd hk (Nat.not_lt_zero k)
  refine ⟨0, 0, 0, 0, 0, 0, fun _ => (0, 0, 0, 0, 0, 0), 0, fun _ => (0, [], 0, 0, 0, 0, 0, [], 0, 0), 0, ⟨by decide, rfl, rfl⟩, ⟨by decide, rfl, rfl⟩, hO, ⟨by decide, rfl, rfl, fun i hi => absurd hi (Nat.not_lt_zero i)⟩, ⟨by decide, rfl, rfl, fun i hi => absurd hi (Nat.not_lt_zero i)⟩, ⟨by decide, by decide, Nat.le_refl _, rfl, rfl, rfl, fun i _ _ => rfl, fun i hi => absurd hi (Nat.not_lt_zero i)⟩, Or.inr rfl, Nat.zero_le _, rfl, ?_, ?_, ?_, ⟨rfl, fun i hi => absurd hi (Nat.not_lt_zero i)⟩, ⟨by decide, fun i hi => absurd hi (Nat.not_lt_zero i), fun i j _ hi => absurd hi (Nat.not_lt_zero j)⟩, fun i hi => absurd hi (Nat.not_lt_zero i), ⟨rfl, fun i hi => absurd hi (Nat.not_lt_zero i), fun i _ _ => ⟨rfl, rfl, rfl⟩⟩, ⟨[], by decide, rfl, fun i hi => absurd hi (Nat.not_lt_zero i), (fun v hv => by cases hv), fun x _ => rfl⟩, ⟨[], by decide, rfl, fun i hi => absurd hi (Nat.not_lt_zero i), (fun v hv => by cases hv), fun x _ => rfl⟩, 0, by decide, rfl⟩
  · exact ⟨rfl, fun i hi => absurd hi (Nat.not_lt_zero i), fun x _ => rfl⟩
  · exact ⟨rfl, fun i hi => absurd hi (Nat.not_lt_zero i)⟩
  · exact ⟨by decide, fun i hi => absurd hi (Nat.not_lt_zero i), fun i j _ hi => absurd hi (Nat.not_lt_zero j)⟩
theorem Btype {F : Nat} (_hF : 5000 ≤ F) : B_type F IV := fun s ⟨h, n, d, nt, c, w, L, m, u, R, I⟩ a1 => by
  have I0 := I
  obtain ⟨i1, i2, i3, i4, i5, i6, i7, i8, i9, i10, i11, i12, i13, i14, i15, i16⟩ := I
  obtain ⟨k, s1, e1, e2⟩ := op_type (F := F) i5 a1
  refine ⟨k, s1, e1, fun N hN => ?_⟩
  obtain ⟨b, s2, b1, b2, b3, ⟨n', T⟩, f⟩ := e2 N hN
  exact ⟨b, s2, b1, b2, b3, h, n, d, n', c, w, L, m, u, R, i1.fr f, i2.fr f, i3.fr f, i4.fr f, T, i6.fr f, by rw [f.ga 58 (by decide)]; exact i7, by rw [an1_fr f]; exact i8, i9, i10.fr f, i11.fr f, i12, i13.fr f, i14, i15, i16.fx f.fx⟩
theorem BclearText {F : Nat} (_hF : 5000 ≤ F) : B_clearText F IV := fun s ⟨h, n, d, nt, c, w, L, m, u, R, I⟩ => by
  have I0 := I
  obtain ⟨i1, i2, i3, i4, i5, i6, i7, i8, i9, i10, i11, i12, i13, i14, i15, i16⟩ := I
  obtain ⟨e1, e2, T, f⟩ := op_clearText (F := F) i5
  exact ⟨_, _, e1, _, e2, h, n, d, 0, c, w, L, m, u, R, i1.fr f, i2.fr f, i3.fr f, i4.fr f, T, i6.fr f, by rw [f.ga 58 (by decide)]; exact i7, by rw [an1_fr f]; exact i8, i9, i10.fr f, i11.fr f, i12, i13.fr f, i14, i15, i16.fx f.fx⟩
theorem BerrorAt {F : Nat} (hF : 5000 ≤ F) : B_errorAt F IV := fun s ⟨h, n, d, nt, c, w, L, m, u, R, I⟩ => by
  have I0 := I
  obtain ⟨i1, i2, i3, i4, i5, i6, i7, i8, i9, i10, i11, i12, i13, i14, i15, i16⟩ := I
  have hu : ∀ r, r < R → (uc (u r)).length ≤ 40 := fun r hr => (i14.2.1 r hr).2.1
  obtain ⟨r, s1, e1, s2, e2, f, S⟩ := op_errorAt (F := F) hF i5 i16 i14.1 hu
  exact ⟨r, s1, e1, s2, e2, I0.fxs f S⟩
theorem Bask {F : Nat} (hF : 5000 ≤ F) : B_ask F IV := fun s ⟨h, n, d, nt, c, w, L, m, u, R, I⟩ a1 a2 => by
  have I0 := I
  obtain ⟨i1, i2, i3, i4, i5, i6, i7, i8, i9, i10, i11, i12, i13, i14, i15, i16⟩ := I
  have hu : ∀ r, r < R → (uc (u r)).length ≤ 40 := fun r hr => (i14.2.1 r hr).2.1
  obtain ⟨k, s1, e1, e2⟩ := op_ask (F := F) hF i1 i5 i10 i11 i12 i16 i14.1 hu a1 a2
  refine ⟨k, s1, e1, fun N hN => ?_⟩
  obtain ⟨b, s2, b1, b2, b3, f, S⟩ := e2 N hN
  exact ⟨b, s2, b1, b2, b3, I0.fxs f S⟩
theorem BaskByCodes {F : Nat} (hF : 5000 ≤ F) : B_askByCodes F IV := fun s ⟨h, n, d, nt, c, w, L, m, u, R, I⟩ a1 a2 => by
  have I0 := I
  obtain ⟨i1, i2, i3, i4, i5, i6, i7, i8, i9, i10, i11, i12, i13, i14, i15, i16⟩ := I
  have hu : ∀ r, r < R → (uc (u r)).length ≤ 40 := fun r hr => (i14.2.1 r hr).2.1
  obtain ⟨k, s1, e1, e2⟩ := op_askByCodes (F := F) hF i1 i5 i10 i11 i12 i16 i14.1 hu a1 a2
  refine ⟨k, s1, e1, fun N hN => ?_⟩
  obtain ⟨b, s2, b1, b2, b3, f, S⟩ := e2 N hN
  exact ⟨b, s2, b1, b2, b3, I0.fxs f S⟩
theorem Bpass {F : Nat} (hF : 5000 ≤ F) : B_pass F IV := fun s ⟨h, n, d, nt, c, w, L, m, u, R, I⟩ a1 => op_pass hF I a1
theorem Bnow {F : Nat} (_hF : 5000 ≤ F) : B_now F IV := fun s ⟨h, n, d, nt, c, w, L, m, u, R, I⟩ => by
  have I0 := I
  obtain ⟨i1, i2, i3, i4, i5, i6, i7, i8, i9, i10, i11, i12, i13, i14, i15, i16⟩ := I
  have f : Fr [2551] [] s (sI s 2551 (io 0)) := Fr.rf.I (by decide)
  refine ⟨io h, s, by rw [f_P_now, i1.2.1], sI s 2551 (io 0), ?_, I0.frs (f.wide (by decide) (by decide))⟩
  show some (gI (sI s 2551 (io 0)) 2526, sI s 2551 (io 0)) = _
  rw [f.gi 2526 (by decide), i1.2.2]
theorem Blog {F : Nat} (hF : 5000 ≤ F) : B_log F IV := fun s ⟨h, n, d, nt, c, w, L, m, u, R, I⟩ a1 a2 a3 a4 => by
  have I0 := I
  obtain ⟨i1, i2, i3, i4, i5, i6, i7, i8, i9, i10, i11, i12, i13, i14, i15, i16⟩ := I
  obtain ⟨k, s1, e1, e2⟩ := op_log (F := F) hF i1 i10 i11 i12 a1 a2 a3 a4
  refine ⟨k, s1, e1, fun N hN => ?_⟩
  obtain ⟨b, s2, b1, b2, b3, ⟨L', m', c1, c2, c3, hor⟩, f⟩ := e2 N hN
  have hS : HS L' m' u R h := by
    rcases hor with ⟨rfl, rfl⟩ | ⟨x, r, hx, rfl, rfl, hr⟩
    · exact i15
    · exact i15.late i14 hx hr
  exact ⟨b, s2, b1, b2, b3, h, n, d, nt, c, w, L', m', u, R, i1.fr f, i2.fr f, i3.fr f, i4.fr f, i5.fr f, i6.fr f, by rw [f.ga 58 (by decide)]; exact i7, by rw [an1_fr f]; exact i8, i9, c1, c2, c3, i13.fr f, i14, hS, i16.fx f.fx⟩
theorem BaddPerson {F : Nat} (_hF : 5000 ≤ F) : B_addPerson F IV := fun s ⟨h, n, d, nt, c, w, L, m, u, R, I⟩ => by
  have I0 := I
  obtain ⟨i1, i2, i3, i4, i5, i6, i7, i8, i9, i10, i11, i12, i13, i14, i15, i16⟩ := I
  obtain ⟨k, s1, e1, e2⟩ := op_addPerson (F := F) i2
  refine ⟨k, s1, e1, fun N hN => ?_⟩
  obtain ⟨b, s2, b1, b2, b3, ⟨n', hn', P⟩, f⟩ := e2 N hN
  exact ⟨b, s2, b1, b2, b3, h, n', d, nt, c, w, L, m, u, R, i1.fr f, P, (i3.fr f).mono hn', (i4.fr f).mono hn', i5.fr f, (i6.fr f).mono hn' (Nat.le_refl _) i14.1, by rw [f.ga 58 (by decide)]; exact i7, by rw [an1_fr f]; exact i8, i9, i10.fr f, i11.fr f, i12, i13.fr f, i14.pp hn', i15, i16.fx f.fx⟩
theorem Boff {F : Nat} (_hF : 5000 ≤ F) : B_off F IV := fun s ⟨h, n, d, nt, c, w, L, m, u, R, I⟩ a1 a2 => by
  have I0 := I
  obtain ⟨i1, i2, i3, i4, i5, i6, i7, i8, i9, i10, i11, i12, i13, i14, i15, i16⟩ := I
  obtain ⟨k, s1, e1, e2⟩ := op_off (F := F) i1 i2 i3 a1 a2
  refine ⟨k, s1, e1, fun N hN => ?_⟩
  obtain ⟨b, s2, b1, b2, b3, O, f⟩ := e2 N hN
  exact ⟨b, s2, b1, b2, b3, h, n, d, nt, c, w, L, m, u, R, i1.fr f, i2.fr f, O, i4.fr f, i5.fr f, i6.fr f, by rw [f.ga 58 (by decide)]; exact i7, by rw [an1_fr f]; exact i8, i9, i10.fr f, i11.fr f, i12, i13.fr f, i14, i15, i16.fx f.fx⟩
theorem Bswap {F : Nat} (_hF : 5000 ≤ F) : B_swap F IV := fun s ⟨h, n, d, nt, c, w, L, m, u, R, I⟩ a1 a2 => by
  have I0 := I
  obtain ⟨i1, i2, i3, i4, i5, i6, i7, i8, i9, i10, i11, i12, i13, i14, i15, i16⟩ := I
  obtain ⟨k, s1, e1, e2⟩ := op_swap (F := F) i1 i2 i3 a1 a2
  refine ⟨k, s1, e1, fun N hN => ?_⟩
  obtain ⟨s2, b1, b2, b3, O, f⟩ := e2 N hN
  exact ⟨s2, b1, b2, b3, h, n, d, nt, c, w, L, m, u, R, i1.fr f, i2.fr f, O, i4.fr f, i5.fr f, i6.fr f, by rw [f.ga 58 (by decide)]; exact i7, by rw [an1_fr f]; exact i8, i9, i10.fr f, i11.fr f, i12, i13.fr f, i14, i15, i16.fx f.fx⟩
theorem Bplanned {F : Nat} (hF : 5000 ≤ F) : B_planned F IV := fun s ⟨h, n, d, nt, c, w, L, m, u, R, I⟩ a1 => by
  have I0 := I
  obtain ⟨i1, i2, i3, i4, i5, i6, i7, i8, i9, i10, i11, i12, i13, i14, i15, i16⟩ := I
  have hu : ∀ r, r < R → (uc (u r)).length ≤ 40 := fun r hr => (i14.2.1 r hr).2.1
  obtain ⟨k, s1, e1, e2⟩ := op_planned (F := F) i1 i2 i3 a1
  refine ⟨k, s1, e1, fun N hN => ?_⟩
  obtain ⟨b, s2, b1, b2, b3, f⟩ := e2 N hN
  exact ⟨b, s2, b1, b2, b3, I0.frs (f.wide (by decide) (by decide))⟩
theorem Bnext {F : Nat} (hF : 5000 ≤ F) : B_next F IV := fun s ⟨h, n, d, nt, c, w, L, m, u, R, I⟩ => by
  have I0 := I
  obtain ⟨i1, i2, i3, i4, i5, i6, i7, i8, i9, i10, i11, i12, i13, i14, i15, i16⟩ := I
  obtain ⟨r, s1, e1, s2, e2, f⟩ := op_next (F := F) hF i1 i2 i3 i4
  exact ⟨r, s1, e1, s2, e2, I0.frs (f.wide (by decide) (by decide))⟩
theorem Bholder {F : Nat} (hF : 5000 ≤ F) : B_holder F IV := fun s ⟨h, n, d, nt, c, w, L, m, u, R, I⟩ a1 => by
  have I0 := I
  obtain ⟨i1, i2, i3, i4, i5, i6, i7, i8, i9, i10, i11, i12, i13, i14, i15, i16⟩ := I
  have hu : ∀ r, r < R → (uc (u r)).length ≤ 40 := fun r hr => (i14.2.1 r hr).2.1
  obtain ⟨k, s1, e1, e2⟩ := op_holder (F := F) i1 i3 a1
  refine ⟨k, s1, e1, fun N hN => ?_⟩
  obtain ⟨b, s2, b1, b2, b3, f⟩ := e2 N hN
  exact ⟨b, s2, b1, b2, b3, I0.frs (f.wide (by decide) (by decide))⟩
theorem Bnights {F : Nat} (hF : 5000 ≤ F) : B_nights F IV := fun s ⟨h, n, d, nt, c, w, L, m, u, R, I⟩ a1 => by
  have I0 := I
  obtain ⟨i1, i2, i3, i4, i5, i6, i7, i8, i9, i10, i11, i12, i13, i14, i15, i16⟩ := I
  have hu : ∀ r, r < R → (uc (u r)).length ≤ 40 := fun r hr => (i14.2.1 r hr).2.1
  obtain ⟨k, s1, e1, e2⟩ := op_nights (F := F) hF i1 i2 i3 a1
  refine ⟨k, s1, e1, fun N hN => ?_⟩
  obtain ⟨b, s2, b1, b2, b3, f⟩ := e2 N hN
  exact ⟨b, s2, b1, b2, b3, I0.frs (f.wide (by decide) (by decide))⟩
theorem Bowes {F : Nat} (hF : 5000 ≤ F) : B_owes F IV := fun s ⟨h, n, d, nt, c, w, L, m, u, R, I⟩ a1 a2 => by
  have I0 := I
  obtain ⟨i1, i2, i3, i4, i5, i6, i7, i8, i9, i10, i11, i12, i13, i14, i15, i16⟩ := I
  have hu : ∀ r, r < R → (uc (u r)).length ≤ 40 := fun r hr => (i14.2.1 r hr).2.1
  obtain ⟨k, s1, e1, e2⟩ := op_owes (F := F) hF i2 i4 a1 a2
  refine ⟨k, s1, e1, fun N hN => ?_⟩
  obtain ⟨b, s2, b1, b2, b3, f⟩ := e2 N hN
  exact ⟨b, s2, b1, b2, b3, I0.frs (f.wide (by decide) (by decide))⟩
theorem BaddRule {F : Nat} (hF : 5000 ≤ F) : B_addRule F IV := fun s ⟨h, n, d, nt, c, w, L, m, u, R, I⟩ a1 a2 a3 => by
  have I0 := I
  obtain ⟨i1, i2, i3, i4, i5, i6, i7, i8, i9, i10, i11, i12, i13, i14, i15, i16⟩ := I
  obtain ⟨k, s1, e1, e2⟩ := op_addRule (F := F) hF i1 i5 i2 i13 i16 i14 i15 i6 a1 a2 a3
  refine ⟨k, s1, e1, fun N hN => ?_⟩
  obtain ⟨b, s2, b1, b2, b3, f, u', R', c1, c2, c3, c4, c5, c6⟩ := e2 N hN
  have e58 : gA s2 58 = gA s 58 := f.2.1 58 (by decide)
  have e23 : an1 s2 = an1 s := by
    have e : an1 (swD s2 s) = an1 s := an1_fr f
    exact e
  exact ⟨b, s2, b1, b2, b3, h, n, d, nt, c, w, L, m, u', R', i1.fy f, i2.fy f, i3.fy f, i4.fy f, i5.fy f, c6, by rw [e58]; exact i7, by rw [e23]; exact i8, by rw [c5]; exact i9, i10.fy f, i11.fy f, i12, c1, c3, c4, c2⟩
theorem Bdrop {F : Nat} (_hF : 5000 ≤ F) : B_drop F IV := fun s ⟨h, n, d, nt, c, w, L, m, u, R, I⟩ a1 => by
  have I0 := I
  obtain ⟨i1, i2, i3, i4, i5, i6, i7, i8, i9, i10, i11, i12, i13, i14, i15, i16⟩ := I
  obtain ⟨k, s1, e1, e2⟩ := op_drop (F := F) i1 i13 i16.1 i14 i15 a1
  refine ⟨k, s1, e1, fun N hN => ?_⟩
  obtain ⟨b, s2, b1, b2, b3, f, -, u', c1, c2, c3, c4, c5⟩ := e2 N hN
  obtain ⟨-, ⟨v1, S1⟩, ⟨v2, S2⟩, f0, hf0, hf1⟩ := i16
  have S : RST s2 u' R := ⟨c2, ⟨v1, TLw.fy S1 f⟩, ⟨v2, TLr.fy S2 f⟩, f0, hf0, (f.1 2511 (by decide)).trans hf1⟩
  have e58 : gA s2 58 = gA s 58 := f.2.1 58 (by decide)
  have e23 : an1 s2 = an1 s := by
    have e : an1 (swD s2 s) = an1 s := an1_fr f
    exact e
  exact ⟨b, s2, b1, b2, b3, h, n, d, nt, c, w, L, m, u', R, i1.fy f, i2.fy f, i3.fy f, i4.fy f, i5.fy f, i6.fy f, by rw [e58]; exact i7, by rw [e23]; exact i8, by rw [c5]; exact i9, i10.fy f, i11.fy f, i12, c1, c3, c4, S⟩
theorem Bsilence {F : Nat} (_hF : 5000 ≤ F) : B_silence F IV := fun s ⟨h, n, d, nt, c, w, L, m, u, R, I⟩ a1 a2 a3 => by
  have I0 := I
  obtain ⟨i1, i2, i3, i4, i5, i6, i7, i8, i9, i10, i11, i12, i13, i14, i15, i16⟩ := I
  obtain ⟨k, s1, e1, e2⟩ := op_silence (F := F) i1 i13 i16.1 i14 i15 a1 a2 a3
  refine ⟨k, s1, e1, fun N hN => ?_⟩
  obtain ⟨b, s2, b1, b2, b3, f, -, u', c1, c2, c3, c4, c5⟩ := e2 N hN
  obtain ⟨-, ⟨v1, S1⟩, ⟨v2, S2⟩, f0, hf0, hf1⟩ := i16
  have S : RST s2 u' R := ⟨c2, ⟨v1, TLw.fy S1 f⟩, ⟨v2, TLr.fy S2 f⟩, f0, hf0, (f.1 2511 (by decide)).trans hf1⟩
  have e58 : gA s2 58 = gA s 58 := f.2.1 58 (by decide)
  have e23 : an1 s2 = an1 s := by
    have e : an1 (swD s2 s) = an1 s := an1_fr f
    exact e
  exact ⟨b, s2, b1, b2, b3, h, n, d, nt, c, w, L, m, u', R, i1.fy f, i2.fy f, i3.fy f, i4.fy f, i5.fy f, i6.fy f, by rw [e58]; exact i7, by rw [e23]; exact i8, by rw [c5]; exact i9, i10.fy f, i11.fy f, i12, c1, c3, c4, S⟩
theorem BinWindow {F : Nat} (hF : 5000 ≤ F) : B_inWindow F IV := fun s ⟨h, n, d, nt, c, w, L, m, u, R, I⟩ a1 => by
  have I0 := I
  obtain ⟨i1, i2, i3, i4, i5, i6, i7, i8, i9, i10, i11, i12, i13, i14, i15, i16⟩ := I
  have hu : ∀ r, r < R → (uc (u r)).length ≤ 40 := fun r hr => (i14.2.1 r hr).2.1
  obtain ⟨k, s1, e1, e2⟩ := op_inWindow (F := F) hF i1 i13 i16.1 i14 i10 i11 i12 a1
  refine ⟨k, s1, e1, fun N hN => ?_⟩
  obtain ⟨b, s2, b1, b2, b3, f⟩ := e2 N hN
  exact ⟨b, s2, b1, b2, b3, I0.frs (f.wide (by decide) (by decide))⟩
theorem Brises {F : Nat} (hF : 5000 ≤ F) : B_rises F IV := fun s ⟨h, n, d, nt, c, w, L, m, u, R, I⟩ a1 => by
  have I0 := I
  obtain ⟨i1, i2, i3, i4, i5, i6, i7, i8, i9, i10, i11, i12, i13, i14, i15, i16⟩ := I
  have hu : ∀ r, r < R → (uc (u r)).length ≤ 40 := fun r hr => (i14.2.1 r hr).2.1
  obtain ⟨k, s1, e1, e2⟩ := op_rises (F := F) i13 i16.1 i14.1 a1
  refine ⟨k, s1, e1, fun N hN => ?_⟩
  obtain ⟨b, s2, b1, b2, b3, f⟩ := e2 N hN
  exact ⟨b, s2, b1, b2, b3, I0.frs (f.wide (by decide) (by decide))⟩
theorem BrisesAnew {F : Nat} (hF : 5000 ≤ F) : B_risesAnew F IV := fun s ⟨h, n, d, nt, c, w, L, m, u, R, I⟩ a1 => by
  have I0 := I
  obtain ⟨i1, i2, i3, i4, i5, i6, i7, i8, i9, i10, i11, i12, i13, i14, i15, i16⟩ := I
  have hu : ∀ r, r < R → (uc (u r)).length ≤ 40 := fun r hr => (i14.2.1 r hr).2.1
  obtain ⟨k, s1, e1, e2⟩ := op_risesAnew (F := F) hF i1 i13 i14 i10 i12 i15 i16 a1
  refine ⟨k, s1, e1, fun N hN => ?_⟩
  obtain ⟨b, s2, b1, b2, b3, f, S⟩ := e2 N hN
  exact ⟨b, s2, b1, b2, b3, I0.fxs f S⟩
theorem Balarms {F : Nat} (hF : 5000 ≤ F) : B_alarms F IV := fun s ⟨h, n, d, nt, c, w, L, m, u, R, I⟩ => by
  have I0 := I
  obtain ⟨i1, i2, i3, i4, i5, i6, i7, i8, i9, i10, i11, i12, i13, i14, i15, i16⟩ := I
  obtain ⟨e1, e2, f⟩ := op_alarms (F := F) i6
  exact ⟨_, _, e1, _, e2, I0.frs (f.wide (by decide) (by decide))⟩
theorem Bwaiting {F : Nat} (hF : 5000 ≤ F) : B_waiting F IV := fun s ⟨h, n, d, nt, c, w, L, m, u, R, I⟩ => by
  have I0 := I
  obtain ⟨i1, i2, i3, i4, i5, i6, i7, i8, i9, i10, i11, i12, i13, i14, i15, i16⟩ := I
  obtain ⟨e1, e2, f⟩ := op_waiting (F := F) hF i1.1 i2.1 i6
  exact ⟨_, _, e1, _, e2, I0.frs (f.wide (by decide) (by decide))⟩
theorem Balarm {F : Nat} (hF : 5000 ≤ F) : B_alarm F IV := fun s ⟨h, n, d, nt, c, w, L, m, u, R, I⟩ a1 => by
  have I0 := I
  obtain ⟨i1, i2, i3, i4, i5, i6, i7, i8, i9, i10, i11, i12, i13, i14, i15, i16⟩ := I
  have hu : ∀ r, r < R → (uc (u r)).length ≤ 40 := fun r hr => (i14.2.1 r hr).2.1
  obtain ⟨k, s1, e1, e2⟩ := op_alarm (F := F) i1.1 i2.1 i6 a1
  refine ⟨k, s1, e1, fun N hN => ?_⟩
  obtain ⟨b, s2, b1, b2, b3, f⟩ := e2 N hN
  exact ⟨b, s2, b1, b2, b3, I0.frs (f.wide (by decide) (by decide))⟩
theorem Bwoken {F : Nat} (hF : 5000 ≤ F) : B_woken F IV := fun s ⟨h, n, d, nt, c, w, L, m, u, R, I⟩ a1 => by
  have I0 := I
  obtain ⟨i1, i2, i3, i4, i5, i6, i7, i8, i9, i10, i11, i12, i13, i14, i15, i16⟩ := I
  have hu : ∀ r, r < R → (uc (u r)).length ≤ 40 := fun r hr => (i14.2.1 r hr).2.1
  obtain ⟨k, s1, e1, e2⟩ := op_woken (F := F) i1.1 i2.1 i6 a1
  refine ⟨k, s1, e1, fun N hN => ?_⟩
  obtain ⟨b, s2, b1, b2, b3, f⟩ := e2 N hN
  exact ⟨b, s2, b1, b2, b3, I0.frs (f.wide (by decide) (by decide))⟩
theorem BwokenAt {F : Nat} (hF : 5000 ≤ F) : B_wokenAt F IV := fun s ⟨h, n, d, nt, c, w, L, m, u, R, I⟩ a1 => by
  have I0 := I
  obtain ⟨i1, i2, i3, i4, i5, i6, i7, i8, i9, i10, i11, i12, i13, i14, i15, i16⟩ := I
  have hu : ∀ r, r < R → (uc (u r)).length ≤ 40 := fun r hr => (i14.2.1 r hr).2.1
  obtain ⟨k, s1, e1, e2⟩ := op_wokenAt (F := F) i1.1 i2.1 i6 a1
  refine ⟨k, s1, e1, fun N hN => ?_⟩
  obtain ⟨b, s2, b1, b2, b3, f⟩ := e2 N hN
  exact ⟨b, s2, b1, b2, b3, I0.frs (f.wide (by decide) (by decide))⟩
theorem Banswer {F : Nat} (_hF : 5000 ≤ F) : B_answer F IV := fun s ⟨h, n, d, nt, c, w, L, m, u, R, I⟩ a1 a2 => by
  have I0 := I
  obtain ⟨i1, i2, i3, i4, i5, i6, i7, i8, i9, i10, i11, i12, i13, i14, i15, i16⟩ := I
  obtain ⟨k, s1, e1, e2⟩ := op_answer (F := F) i1 i2.1 i6 i13 i16.1 i14 i4 i8 a1 a2
  refine ⟨k, s1, e1, fun N hN => ?_⟩
  obtain ⟨b, s2, b1, b2, b3, f, A, d', D, hd⟩ := e2 N hN
  exact ⟨b, s2, b1, b2, b3, h, n, d', nt, c, w, L, m, u, R, i1.fr f, i2.fr f, i3.fr f, D, i5.fr f, A, by rw [f.ga 58 (by decide)]; exact i7, hd, i9, i10.fr f, i11.fr f, i12, i13.fr f, i14, i15, i16.fx f.fx⟩
theorem BwouldRise {F : Nat} (hF : 5000 ≤ F) : B_wouldRise F IV := fun s ⟨h, n, d, nt, c, w, L, m, u, R, I⟩ a1 => by
  have I0 := I
  obtain ⟨i1, i2, i3, i4, i5, i6, i7, i8, i9, i10, i11, i12, i13, i14, i15, i16⟩ := I
  have hu : ∀ r, r < R → (uc (u r)).length ≤ 40 := fun r hr => (i14.2.1 r hr).2.1
  obtain ⟨k, s1, e1, e2⟩ := op_wouldRise (F := F) hF i1 i2.1 i6 i13 i14 i10 i11 i12 i16 a1
  refine ⟨k, s1, e1, fun N hN => ?_⟩
  obtain ⟨b, s2, b1, b2, b3, f, S⟩ := e2 N hN
  exact ⟨b, s2, b1, b2, b3, I0.fxs f S⟩
theorem BB_all {F : Nat} (hF : 5000 ≤ F) : BB F IV := ⟨IV0, Btype hF, BclearText hF, BerrorAt hF, Bask hF, BaskByCodes hF, Bpass hF, Bnow hF, Blog hF, BaddPerson hF, Boff hF, Bswap hF, Bplanned hF, Bnext hF, Bholder hF, Bnights hF, Bowes hF, BaddRule hF, Bdrop hF, Bsilence hF, BinWindow hF, Brises hF, BrisesAnew hF, Balarms hF, Bwaiting hF, Balarm hF, Bwoken hF, BwokenAt hF, Banswer hF, BwouldRise hF⟩
