/-! what the class does, purely (out of the rows of the claim whole) -/
/-! rules: their ghosts -/
/-- cell, question, owner, window, rest, made in, 1 more than the hour in which it was dropped, silences, how many alarms, 1 more than the hour of the last one -/
abbrev RU : Type := Nat × List QT × Nat × Nat × Nat × Nat × Nat × List (Nat × Nat) × Nat × Nat
def uq (x : RU) : Nat := x.1
def uc (x : RU) : List QT := x.2.1
def uo (x : RU) : Nat := x.2.2.1
def uw (x : RU) : Nat := x.2.2.2.1
def ur (x : RU) : Nat := x.2.2.2.2.1
def um (x : RU) : Nat := x.2.2.2.2.2.1
def ud (x : RU) : Nat := x.2.2.2.2.2.2.1
def us (x : RU) : List (Nat × Nat) := x.2.2.2.2.2.2.2.1
def un (x : RU) : Nat := x.2.2.2.2.2.2.2.2.1
def ul (x : RU) : Nat := x.2.2.2.2.2.2.2.2.2
def DE (s s' : St) : Prop := sz s ≤ sz s' ∧ ∀ q, q < sz s → gD s' q = gD s q
theorem DE.rf {s : St} : DE s s := ⟨Nat.le_refl _, fun _ _ => rfl⟩
theorem DE.trans {s s1 s2 : St} (h : DE s s1) (h2 : DE s1 s2) : DE s s2 := ⟨Nat.le_trans h.1 h2.1, fun q hq => (h2.2 q (Nat.lt_of_lt_of_le hq h.1)).trans (h.2 q hq)⟩
theorem DE.nm {s s' : St} (h : DE s s') : NM s s' := ⟨h.1, fun q o hq hd => by rw [h.2 q hq]; exact hd⟩
theorem Fr.de {eI eA : List Nat} {s s' : St} (f : Fr eI eA s s') : DE s s' := ⟨f.2.2.2.2, fun q _ => by rw [f.2.2.2.1]⟩
theorem Fw.de {s s' : St} (f : Fw s s') : DE s s' := ⟨f.2.2.2.2.2.1, f.2.2.2.2.2.2⟩
/-- a rule in the heap -/
def RC1 (s : St) (x : RU) : Prop := uq x + 2 < sz s ∧ ∃ o g6 g7 nq, gD s (uq x) = some (.inl (6, o)) ∧ gD s (uq x + 1) = some (.inr (.inl (1, 5, g6))) ∧ gD s (uq x + 2) = some (.inr (.inl (1, 5, g7))) ∧
  o.1 1 = io (uo x) ∧ o.1 2 = io (uw x) ∧ o.1 3 = io (ur x) ∧ o.1 4 = io (um x) ∧ o.1 5 = dn (ud x) ∧ o.1 8 = io (us x).length ∧ o.1 9 = io (un x) ∧ o.1 10 = dn (ul x) ∧ o.2.1 0 = some nq ∧ o.2.1 6 = some (uq x + 1) ∧ o.2.1 7 = some (uq x + 2) ∧ TQ s 40 nq (uc x) ∧ ∀ i (h : i < (us x).length), g6 i = io (us x)[i].1 ∧ g7 i = io (us x)[i].2
def RUc (s : St) (u : Nat → RU) (R : Nat) : Prop := gI s 4 = io R ∧ ∀ r, r < R → gQ s 2 r = some (uq (u r)) ∧ RC1 s (u r)
def RG1 (h n : Nat) (x : RU) : Prop := okQ (uc x) ∧ (uc x).length ≤ 40 ∧ uo x < n ∧ 1 ≤ uw x ∧ uw x ≤ 72 ∧ ur x ≤ 72 ∧ um x ≤ h ∧ (ud x = 0 ∨ (um x < ud x ∧ ud x ≤ h + 1)) ∧ (us x).length ≤ 5 ∧ (∀ e ∈ us x, e.1 ≤ e.2 ∧ e.2 ≤ 1000) ∧ (un x = 0 ↔ ul x = 0) ∧ ul x ≤ h + 1 ∧ un x ≤ h
def RUg (u : Nat → RU) (R h n : Nat) : Prop := R ≤ 4 ∧ (∀ r, r < R → RG1 h n (u r)) ∧ ∀ r r', r < r' → r' < R → uq (u r) + 3 ≤ uq (u r')
def silB (l : List (Nat × Nat)) (th : Nat) : Bool := l.any (fun e => decide (e.1 ≤ th ∧ th ≤ e.2))
def dueB (L : Nat → LR) (m : Nat) (x : RU) (th l : Nat) : Bool := decide (l = 0 ∨ ur x + (l - 1) < th) && (!silB (us x) th && decide (valQ (ev L (pks L m (th + 1 - uw x) th (th - 1))) (uc x) ≠ 0))
def rcn (L : Nat → LR) (m : Nat) (x : RU) : Nat → Nat × Nat
  | 0 => (0, 0)
  | k + 1 => if dueB L m x (um x + k + 1) (rcn L m x k).2 = true then ((rcn L m x k).1 + 1, um x + k + 2) else rcn L m x k
def uend (x : RU) (h : Nat) : Nat := if ud x = 0 then h else ud x - 1
def HS (L : Nat → LR) (m : Nat) (u : Nat → RU) (R h : Nat) : Prop := ∀ r, r < R → rcn L m (u r) (uend (u r) h - um (u r)) = (un (u r), ul (u r))
def csum (u : Nat → RU) : Nat → Nat
  | 0 => 0
  | r + 1 => csum u r + un (u r)
theorem RC1.de {s s' : St} {x : RU} (H : RC1 s x) (f : DE s s') : RC1 s' x := by
  obtain ⟨h1, o, g6, g7, nq, h2, h3, h4, h5, h6, h7, h8, h9, h10, h11, h12, h13, h14, h15, h16, h17⟩ := H
  exact ⟨Nat.lt_of_lt_of_le h1 f.1, o, g6, g7, nq, by rw [f.2 _ (by omega)]; exact h2, by rw [f.2 _ (by omega)]; exact h3, by rw [f.2 _ h1]; exact h4, h5, h6, h7, h8, h9, h10, h11, h12, h13, h14, h15, TQ.nm f.nm _ _ _ h16, h17⟩
theorem RUc.de {s s' : St} {u : Nat → RU} {R : Nat} (H : RUc s u R) (f : DE s s') (h1 : gI s' 4 = gI s 4) (h2 : gQ s' = gQ s) : RUc s' u R := ⟨h1.trans H.1, fun r hr => ⟨by rw [h2]; exact (H.2 r hr).1, (H.2 r hr).2.de f⟩⟩
theorem RUc.fr {eI eA : List Nat} {s s' : St} {u : Nat → RU} {R : Nat} (H : RUc s u R) (f : Fr eI eA s s') (d : 4 ∉ eI := by decide) : RUc s' u R := H.de f.de (f.gi 4 d) f.2.2.1
theorem TLw.fr {eI eA : List Nat} {s s' : St} {vs : List Int32} (H : TLw s vs) (f : Fr eI eA s s') (d1 : 1985 ∉ eI := by decide) (d2 : 32 ∉ eA := by decide) (d3 : 33 ∉ eA := by decide) : TLw s' vs := by
  unfold TLw at *
  rw [f.gi 1985 d1, f.ga 32 d2, f.ga 33 d3]
  exact H
theorem TLr.fr {eI eA : List Nat} {s s' : St} {vs : List Int32} (H : TLr s vs) (f : Fr eI eA s s') (d1 : 2241 ∉ eI := by decide) (d2 : 36 ∉ eA := by decide) (d3 : 37 ∉ eA := by decide) : TLr s' vs := by
  unfold TLr at *
  rw [f.gi 2241 d1, f.ga 36 d2, f.ga 37 d3]
  exact H
/-! which rule is meant -/
theorem ruleAt_t {F R r : Nat} {s : St} {u : Nat → RU} (H : RUc s u R) (hR : R ≤ 4) (hr : r < R) : f_P_ruleAt F s (io r) = some (some (uq (u r)), s) := by
  have h1 := H.1
  have h2 := (H.2 r hr).1
  have n0 : ¬ r < 0 := by omega
  have n1 : ¬ R ≤ r := by omega
  have n2 : ¬ 4 ≤ r := by omega
  simp (disch := omega) only [f_P_ruleAt, Option.bind_some, Nat.reduceEqDiff, Nat.add_zero, Nat.zero_add, Nat.reduceLT, Nat.reduceLeDiff, Nat.reduceAdd, Nat.reduceSub, Nat.reduceMul, Nat.reduceDiv, Nat.lt_irrefl, Nat.not_lt_zero, Nat.zero_le, Nat.one_ne_zero, Nat.succ_ne_zero,  lt_def, i32_lit, reduceIte, P_isIn_eq, or_false, false_or, or_true, true_or, and_true, true_and, and_false, false_and, not_true, not_false_eq_true, eq_self, if_true, if_false, not_or, not_and, Nat.not_lt, Nat.not_le, io_lt, n0, h1, io_le, n1, n2, ix_io, h2]
theorem ruleAt_f {F R : Nat} {s : St} {u : Nat → RU} {x : Int32} (H : RUc s u R) (hR : R ≤ 4) (hx : ¬ ∃ r, r < R ∧ x = io r) : f_P_ruleAt F s x = some (none, s) := by
  have h1 := H.1
  by_cases h0 : x < io 0
  · simp (disch := omega) only [f_P_ruleAt, Option.bind_some, Nat.reduceEqDiff, Nat.add_zero, Nat.zero_add, Nat.reduceLT, Nat.reduceLeDiff, Nat.reduceAdd, Nat.reduceSub, Nat.reduceMul, Nat.reduceDiv, Nat.lt_irrefl, Nat.not_lt_zero, Nat.zero_le, Nat.one_ne_zero, Nat.succ_ne_zero,  lt_def, i32_lit, reduceIte, P_isIn_eq, or_false, false_or, or_true, true_or, and_true, true_and, and_false, false_and, not_true, not_false_eq_true, eq_self, if_true, if_false, not_or, not_and, Nat.not_lt, Nat.not_le, h0]
  · rw [i32_nlt] at h0
    obtain ⟨e, hl⟩ := io_of h0
    have h2 : R ≤ x.toNatClampNeg := Classical.byContradiction fun hn => hx ⟨_, by omega, e⟩
    have n0 : ¬ x.toNatClampNeg < 0 := by omega
    rw [e]
    simp (disch := omega) only [f_P_ruleAt, Option.bind_some, Nat.reduceEqDiff, Nat.add_zero, Nat.zero_add, Nat.reduceLT, Nat.reduceLeDiff, Nat.reduceAdd, Nat.reduceSub, Nat.reduceMul, Nat.reduceDiv, Nat.lt_irrefl, Nat.not_lt_zero, Nat.zero_le, Nat.one_ne_zero, Nat.succ_ne_zero,  lt_def, i32_lit, reduceIte, P_isIn_eq, or_false, false_or, or_true, true_or, and_true, true_and, and_false, false_and, not_true, not_false_eq_true, eq_self, if_true, if_false, not_or, not_and, Nat.not_lt, Nat.not_le, io_lt, n0, h1, io_le, h2]
/-- what a rule's cell shows -/
theorem RC1.dg {s : St} {x : RU} (H : RC1 s x) : ∃ o nq, dgo s (some (uq x)) 6 = some (uq x, o) ∧ o.1 1 = io (uo x) ∧ o.1 2 = io (uw x) ∧ o.1 3 = io (ur x) ∧ o.1 4 = io (um x) ∧ o.1 5 = dn (ud x) ∧ o.1 8 = io (us x).length ∧ o.1 9 = io (un x) ∧ o.1 10 = dn (ul x) ∧ o.2.1 0 = some nq ∧ o.2.1 6 = some (uq x + 1) ∧ o.2.1 7 = some (uq x + 2) ∧ TQ s 40 nq (uc x) ∧ gD s (uq x) = some (.inl (6, o)) := by
  obtain ⟨h1, o, g6, g7, nq, h2, h3, h4, h5, h6, h7, h8, h9, h10, h11, h12, h13, h14, h15, h16, h17⟩ := H
  exact ⟨o, nq, dgo_at h2, h5, h6, h7, h8, h9, h10, h11, h12, h13, h14, h15, h16, h2⟩
/-! frames where cells are born; windows; questions asked -/
def swD (s' s : St) : St := (gI s', gA s', gL s', gJ s', gR s', gQ s, gD s, sz s')
abbrev FY (eI eA : List Nat) (s s' : St) : Prop := Fr eI eA s (swD s' s)
def FX (eI eA : List Nat) (s s' : St) : Prop := (∀ k, k ∉ eI → gI s' k = gI s k) ∧ (∀ k, k ∉ eA → gA s' k = gA s k) ∧ gQ s' = gQ s ∧ DE s s'
theorem FX.swD {eI eA : List Nat} {s s' : St} (h : FX eI eA s s') : FY eI eA s s' := ⟨h.1, h.2.1, rfl, rfl, h.2.2.2.1⟩
theorem Fr.fx {eI eA : List Nat} {s s' : St} (h : Fr eI eA s s') : FX eI eA s s' := ⟨h.1, h.2.1, h.2.2.1, h.de⟩
theorem Fw.fx {s s' : St} (h : Fw s s') : FX [1537, 1538] [] s s' := ⟨fun k hk => h.1 k (fun e => hk (by rw [e]; decide)) (fun e => hk (by rw [e]; decide)), fun k _ => by rw [h.2.1], h.2.2.2.2.1, h.de⟩
theorem FX.trans {eI eA : List Nat} {s s1 s2 : St} (h : FX eI eA s s1) (h2 : FX eI eA s1 s2) : FX eI eA s s2 := ⟨fun k hk => (h2.1 k hk).trans (h.1 k hk), fun k hk => (h2.2.1 k hk).trans (h.2.1 k hk), h2.2.2.1.trans h.2.2.1, h.2.2.2.trans h2.2.2.2⟩
theorem FX.wide {eI eA eI' eA' : List Nat} {s s1 : St} (h : FX eI eA s s1) (h1 : ∀ k ∈ eI, k ∈ eI') (h2 : ∀ k ∈ eA, k ∈ eA') : FX eI' eA' s s1 := ⟨fun k hk => h.1 k (fun h9 => hk (h1 k h9)), fun k hk => h.2.1 k (fun h9 => hk (h2 k h9)), h.2.2⟩
theorem LGc.fy {eI eA : List Nat} {s s' : St} {L : Nat → LR} {m : Nat} (H : LGc s L m) (f : FY eI eA s s') (d1 : 200 ∉ eI := by decide) (d : ∀ k ∈ [4, 5, 6, 7, 8, 9, 10], k ∉ eA := by decide) : LGc s' L m := by
  have h9 : LGc (swD s' s) L m := LGc.fr H f d1 d
  exact h9
theorem LGc.fx {eI eA : List Nat} {s s' : St} {L : Nat → LR} {m : Nat} (H : LGc s L m) (f : FX eI eA s s') (d1 : 200 ∉ eI := by decide) (d : ∀ k ∈ [4, 5, 6, 7, 8, 9, 10], k ∉ eA := by decide) : LGc s' L m := LGc.fy H f.swD d1 d
theorem TLw.fy {eI eA : List Nat} {s s' : St} {vs : List Int32} (H : TLw s vs) (f : FY eI eA s s') (d1 : 1985 ∉ eI := by decide) (d2 : 32 ∉ eA := by decide) (d3 : 33 ∉ eA := by decide) : TLw s' vs := by
  have h9 : TLw (swD s' s) vs := TLw.fr H f d1 d2 d3
  exact h9
theorem TLw.fx {eI eA : List Nat} {s s' : St} {vs : List Int32} (H : TLw s vs) (f : FX eI eA s s') (d1 : 1985 ∉ eI := by decide) (d2 : 32 ∉ eA := by decide) (d3 : 33 ∉ eA := by decide) : TLw s' vs := TLw.fy H f.swD d1 d2 d3
theorem TLr.fy {eI eA : List Nat} {s s' : St} {vs : List Int32} (H : TLr s vs) (f : FY eI eA s s') (d1 : 2241 ∉ eI := by decide) (d2 : 36 ∉ eA := by decide) (d3 : 37 ∉ eA := by decide) : TLr s' vs := by
  have h9 : TLr (swD s' s) vs := TLr.fr H f d1 d2 d3
  exact h9
theorem TLr.fx {eI eA : List Nat} {s s' : St} {vs : List Int32} (H : TLr s vs) (f : FX eI eA s s') (d1 : 2241 ∉ eI := by decide) (d2 : 36 ∉ eA := by decide) (d3 : 37 ∉ eA := by decide) : TLr s' vs := TLr.fy H f.swD d1 d2 d3
theorem RUc.fx {eI eA : List Nat} {s s' : St} {u : Nat → RU} {R : Nat} (H : RUc s u R) (f : FX eI eA s s') (d : 4 ∉ eI := by decide) : RUc s' u R := H.de f.2.2.2 (f.1 4 d) f.2.2.1
theorem CX2.fx {eI eA : List Nat} {s s' : St} {t : Nat → Nat} {n : Nat} (H : CX2 t n s) (f : FX eI eA s s') (d2 : 1 ∉ eA := by decide) : CX2 t n s' := by
  unfold CX2
  rw [f.2.1 1 d2]
  exact H
/-! windows -/
theorem win_int {th w : Nat} (h1 : th ≤ 1000) (h2 : w ≤ 72) : (io th - io w + io 1).toInt = (th : Int) - w + 1 := by
  have e1 : (io th - io w).toInt = (th : Int) - w := by
    rw [i32_sub (by rw [io_toInt (by omega), io_toInt (by omega)]; omega) (by rw [io_toInt (by omega), io_toInt (by omega)]; omega), io_toInt (by omega), io_toInt (by omega)]
  rw [i32_add (by rw [e1, io_toInt (by omega)]; omega) (by rw [e1, io_toInt (by omega)]; omega), e1, io_toInt (by omega)]
  rfl
theorem win_eq {th w : Nat} (h1 : th ≤ 1000) (h2 : w ≤ 72) : (if io 0 < io th - io w + io 1 then io th - io w + io 1 else io 0) = io (th + 1 - w) := by
  have e := win_int h1 h2
  by_cases h : w ≤ th
  · have e2 : io th - io w + io 1 = io (th + 1 - w) := by
      rw [← Int32.toInt_inj, e, io_toInt (by omega)]; omega
    rw [if_pos (by rw [Int32.lt_iff_toInt_lt, e, io_toInt (by omega)]; omega), e2]
  · rw [if_neg (by rw [Int32.lt_iff_toInt_lt, e, io_toInt (by omega)]; omega)]
    congr 1; omega
theorem win_lt {th w : Nat} (h1 : th ≤ 1000) (h2 : w ≤ 72) : ∀ r, r ≤ 1000 → (io r < io th - io w + io 1) = (r < th + 1 - w) := by
  intro r hr
  have e := win_int h1 h2
  rw [Int32.lt_iff_toInt_lt, e, io_toInt (by omega)]
  apply propext
  omega
theorem pks_len {L : Nat → LR} {m a b t : Nat} : (pks L m a b t).length ≤ m := Nat.le_trans (List.length_filter_le _ _) (by rw [List.length_range]; exact Nat.le_refl _)
theorem pks_mem {L : Nat → LR} {m a b t : Nat} : ∀ k ∈ pks L m a b t, k < m := fun k hk => List.mem_range.mp (List.mem_filter.mp hk).1
theorem pickW_eq {F h m th tb : Nat} {s : St} {L : Nat → LR} {x : RU} (hF : 5000 ≤ F) (C : LGc s L m) (G : LGg L m h) (hh : h ≤ 1000) (hX : RC1 s x) (hw : 1 ≤ uw x ∧ uw x ≤ 72) (hth : th ≤ 1000) (htb : tb ≤ 1000) : ∃ s', f_P_pickWindow F s (some (uq x)) (io th) (io tb) = some s' ∧ LW s' L m h (pks L m (th + 1 - uw x) th tb) ∧ Fr [201] [11] s s' := by
  obtain ⟨o, nq, d1, d2, d3, -⟩ := hX.dg
  obtain ⟨s', e1, e2, e3⟩ := pick_eq (F := F) hF C G hh htb (show th + 1 - uw x ≤ th by omega) hth
  refine ⟨s', ?_, ⟨C.fr e3, G, hh, e2, Nat.le_trans pks_len G.1, pks_mem⟩, e3⟩
  have hwi := win_eq hth hw.2
  simp (disch := omega) only [f_P_pickWindow, Option.bind_some, Nat.reduceEqDiff, Nat.add_zero, Nat.zero_add, Nat.reduceLT, Nat.reduceLeDiff, Nat.reduceAdd, Nat.reduceSub, Nat.reduceMul, Nat.reduceDiv, Nat.lt_irrefl, Nat.not_lt_zero, Nat.zero_le, Nat.one_ne_zero, Nat.succ_ne_zero,  lt_def, i32_lit, reduceIte, P_isIn_eq, or_false, false_or, or_true, true_or, and_true, true_and, and_false, false_and, not_true, not_false_eq_true, eq_self, if_true, if_false, not_or, not_and, Nat.not_lt, Nat.not_le, d1, d3, hwi, e1]
theorem fil_cnt {p : Nat → Bool} : ∀ m, ((List.range m).filter p).length = cnt p m := by
  intro m
  induction m with
  | zero => rfl
  | succ m ih =>
    rw [List.range_succ, List.filter_append, List.length_append, ih]
    show _ = cnt p m + (if p m then 1 else 0)
    by_cases h : p m = true
    · rw [List.filter_cons_of_pos h, if_pos h]; rfl
    · rw [List.filter_cons_of_neg h, if_neg h]; rfl
theorem isRange_bad {F h : Nat} {s : St} {a b : Int32} (hab : (a < io 0 ∨ io h < a) ∨ (¬ (a < io 0 ∨ io h < a) ∧ (b < a ∨ io h < b))) : f_P_isRange F s a b (io 0) (io h) = some (io 0, s) := by
  rcases hab with h1 | ⟨h1, h2⟩
  · simp (disch := omega) only [f_P_isRange, Option.bind_some, Nat.reduceEqDiff, Nat.add_zero, Nat.zero_add, Nat.reduceLT, Nat.reduceLeDiff, Nat.reduceAdd, Nat.reduceSub, Nat.reduceMul, Nat.reduceDiv, Nat.lt_irrefl, Nat.not_lt_zero, Nat.zero_le, Nat.one_ne_zero, Nat.succ_ne_zero,  lt_def, i32_lit, reduceIte, P_isIn_eq, or_false, false_or, or_true, true_or, and_true, true_and, and_false, false_and, not_true, not_false_eq_true, eq_self, if_true, if_false, not_or, not_and, Nat.not_lt, Nat.not_le, h1]
  · simp (disch := omega) only [f_P_isRange, Option.bind_some, Nat.reduceEqDiff, Nat.add_zero, Nat.zero_add, Nat.reduceLT, Nat.reduceLeDiff, Nat.reduceAdd, Nat.reduceSub, Nat.reduceMul, Nat.reduceDiv, Nat.lt_irrefl, Nat.not_lt_zero, Nat.zero_le, Nat.one_ne_zero, Nat.succ_ne_zero,  lt_def, i32_lit, reduceIte, P_isIn_eq, or_false, false_or, or_true, true_or, and_true, true_and, and_false, false_and, not_true, not_false_eq_true, eq_self, if_true, if_false, not_or, not_and, Nat.not_lt, Nat.not_le, h1, h2, io_eq]
theorem ask_cases {a b : Int32} {h : Nat} (hh : h ≤ 1000) : ((a < io 0 ∨ io h < a) ∨ (¬ (a < io 0 ∨ io h < a) ∧ (b < a ∨ io h < b))) ∨ ∃ a' b', a = io a' ∧ b = io b' ∧ a' ≤ b' ∧ b' ≤ h := by
  rcases in_or (x := a) (a := io 0) (b := io h) with ⟨n1, r1, r1'⟩ | n1
  · rcases in_or (x := b) (a := a) (b := io h) with ⟨n2, r2, r2'⟩ | n2
    · obtain ⟨p, rfl, hp⟩ := io_in (by omega) r1 r1'
      have h3 : io 0 ≤ b := by
        rw [Int32.le_iff_toInt_le, io_toInt (by omega)] at r2 ⊢
        omega
      obtain ⟨q, rfl, hq⟩ := io_in (by omega) h3 r2'
      rw [io_le (by omega) (by omega)] at r2
      exact Or.inr ⟨p, q, rfl, rfl, r2, hq⟩
    · exact Or.inl (Or.inr ⟨n1, n2⟩)
  · exact Or.inl (Or.inl n1)
/-! one rule's cells change -/
theorem RUc.upd {s s' : St} {u : Nat → RU} {R h n r : Nat} {x : RU} (C : RUc s u R) (G : RUg u R h n) (hr : r < R) (hx : uq x = uq (u r)) (h1 : ∀ q, (q < uq x ∨ uq x + 3 ≤ q) → q < sz s → gD s' q = gD s q) (h2 : NM s s') (h3 : gI s' 4 = gI s 4) (h4 : gQ s' = gQ s) (h5 : RC1 s' x) : RUc s' (ups u r x) R := by
  refine ⟨h3.trans C.1, fun k hk => ?_⟩
  unfold ups
  by_cases e : k = r
  · rw [if_pos e]
    refine ⟨?_, h5⟩
    rw [h4, hx, e]; exact (C.2 r hr).1
  · rw [if_neg e]
    refine ⟨by rw [h4]; exact (C.2 k hk).1, ?_⟩
    obtain ⟨a1, o, g6, g7, nq, a2, a3, a4, a5, a6, a7, a8, a9, a10, a11, a12, a13, a14, a15, a16, a17⟩ := (C.2 k hk).2
    have hd : uq (u k) + 3 ≤ uq x ∨ uq x + 3 ≤ uq (u k) := by
      rw [hx]
      rcases Nat.lt_or_ge k r with h9 | h9
      · exact Or.inl (G.2.2 k r h9 hr)
      · exact Or.inr (G.2.2 r k (by omega) hk)
    exact ⟨Nat.lt_of_lt_of_le a1 h2.1, o, g6, g7, nq, by rw [h1 _ (by omega) (by omega)]; exact a2, by rw [h1 _ (by omega) (by omega)]; exact a3, by rw [h1 _ (by omega) a1]; exact a4, a5, a6, a7, a8, a9, a10, a11, a12, a13, a14, a15, TQ.nm h2 _ _ _ a16, a17⟩
theorem RUg.upd {u : Nat → RU} {R h n r : Nat} {x : RU} (G : RUg u R h n) (hr : r < R) (hx : uq x = uq (u r)) (h1 : RG1 h n x) : RUg (ups u r x) R h n := by
  refine ⟨G.1, fun k hk => ?_, fun k k' h2 h3 => ?_⟩
  · unfold ups
    by_cases e : k = r
    · rw [if_pos e]; exact h1
    · rw [if_neg e]; exact G.2.1 k hk
  · have h9 : ∀ k, uq (ups u r x k) = uq (u k) := fun k => by
      unfold ups
      by_cases e : k = r
      · rw [if_pos e, hx, e]
      · rw [if_neg e]
    rw [h9, h9]; exact G.2.2 k k' h2 h3
theorem HS.upd {L : Nat → LR} {m : Nat} {u : Nat → RU} {R h r : Nat} {x : RU} (H : HS L m u R h) (h1 : rcn L m x (uend x h - um x) = (un x, ul x)) : HS L m (ups u r x) R h := fun k hk => by
  unfold ups
  by_cases e : k = r
  · rw [if_pos e]; exact h1
  · rw [if_neg e]; exact H k hk
theorem csum_upd {u : Nat → RU} {r : Nat} {x : RU} (hx : un x = un (u r)) : ∀ R, csum (ups u r x) R = csum u R := by
  intro R
  induction R with
  | zero => rfl
  | succ R ih =>
    show csum (ups u r x) R + un (ups u r x R) = csum u R + un (u R)
    rw [ih]
    congr 1
    unfold ups
    by_cases e : R = r
    · rw [if_pos e, hx, e]
    · rw [if_neg e]
theorem rcn_congr {L : Nat → LR} {m : Nat} {x y : RU} (h1 : um y = um x) : ∀ k, (∀ th l, um x < th → th ≤ um x + k → dueB L m y th l = dueB L m x th l) → rcn L m y k = rcn L m x k := by
  intro k
  induction k with
  | zero => intro _; rfl
  | succ k ih =>
    intro h2
    unfold rcn
    rw [ih (fun th l a b => h2 th l a (by omega)), h1, h2 _ _ (by omega) (by omega)]
def uDrop (x : RU) (h : Nat) : RU := (uq x, uc x, uo x, uw x, ur x, um x, h + 1, us x, un x, ul x)
/-! a rule is made silent -/
theorem isRange_badG {F l g : Nat} {s : St} {a b : Int32} (hab : (a < io l ∨ io g < a) ∨ (¬ (a < io l ∨ io g < a) ∧ (b < a ∨ io g < b))) : f_P_isRange F s a b (io l) (io g) = some (io 0, s) := by
  rcases hab with h1 | ⟨h1, h2⟩
  · simp (disch := omega) only [f_P_isRange, Option.bind_some, Nat.reduceEqDiff, Nat.add_zero, Nat.zero_add, Nat.reduceLT, Nat.reduceLeDiff, Nat.reduceAdd, Nat.reduceSub, Nat.reduceMul, Nat.reduceDiv, Nat.lt_irrefl, Nat.not_lt_zero, Nat.zero_le, Nat.one_ne_zero, Nat.succ_ne_zero,  lt_def, i32_lit, reduceIte, P_isIn_eq, or_false, false_or, or_true, true_or, and_true, true_and, and_false, false_and, not_true, not_false_eq_true, eq_self, if_true, if_false, not_or, not_and, Nat.not_lt, Nat.not_le, h1]
  · simp (disch := omega) only [f_P_isRange, Option.bind_some, Nat.reduceEqDiff, Nat.add_zero, Nat.zero_add, Nat.reduceLT, Nat.reduceLeDiff, Nat.reduceAdd, Nat.reduceSub, Nat.reduceMul, Nat.reduceDiv, Nat.lt_irrefl, Nat.not_lt_zero, Nat.zero_le, Nat.one_ne_zero, Nat.succ_ne_zero,  lt_def, i32_lit, reduceIte, P_isIn_eq, or_false, false_or, or_true, true_or, and_true, true_and, and_false, false_and, not_true, not_false_eq_true, eq_self, if_true, if_false, not_or, not_and, Nat.not_lt, Nat.not_le, h1, h2, io_eq]
theorem rng_cases {a b : Int32} {l g : Nat} (hl : l ≤ 2000) (hg : g ≤ 1000) : ((a < io l ∨ io g < a) ∨ (¬ (a < io l ∨ io g < a) ∧ (b < a ∨ io g < b))) ∨ ∃ a' b', a = io a' ∧ b = io b' ∧ l ≤ a' ∧ a' ≤ b' ∧ b' ≤ g := by
  rcases in_or (x := a) (a := io l) (b := io g) with ⟨n1, r1, r1'⟩ | n1
  · rcases in_or (x := b) (a := a) (b := io g) with ⟨n2, r2, r2'⟩ | n2
    · have h0 : io 0 ≤ a := by
        rw [Int32.le_iff_toInt_le, io_toInt (by omega)] at r1 ⊢
        omega
      obtain ⟨p, rfl, hp⟩ := io_in (by omega) h0 r1'
      have h3 : io 0 ≤ b := by
        rw [Int32.le_iff_toInt_le, io_toInt (by omega)] at r2 ⊢
        omega
      obtain ⟨q, rfl, hq⟩ := io_in (by omega) h3 r2'
      rw [io_le (by omega) (by omega)] at r1 r2
      exact Or.inr ⟨p, q, rfl, rfl, r1, r2, hq⟩
    · exact Or.inl (Or.inr ⟨n1, n2⟩)
  · exact Or.inl (Or.inl n1)
def uSil (x : RU) (a b : Nat) : RU := (uq x, uc x, uo x, uw x, ur x, um x, ud x, us x ++ [(a, b)], un x, ul x)
theorem dga_at {s : St} {q t : Nat} {a : Nat × (Nat → Int32)} (h : gD s q = some (.inr (.inl (t, a)))) : dga s (some q) t = some (q, a) := by
  unfold dga
  simp only [h, if_true]
/-! an alarm is answered -/
theorem cnt_lt {p : Nat → Bool} {i : Nat} (hi : p i = false) : ∀ c, i < c → cnt p c < c := by
  intro c
  induction c with
  | zero => intro h; omega
  | succ c ih =>
    intro h
    show cnt p c + (if p c then 1 else 0) < c + 1
    by_cases e : i = c
    · have := cnt_le p c
      rw [← e, hi]
      rw [← e] at this
      show cnt p i + 0 < i + 1
      omega
    · have := ih (by omega)
      split <;> omega
theorem cnt_one {p q : Nat → Bool} {i : Nat} (h1 : p i = false) (h2 : q i = true) (h3 : ∀ j, j ≠ i → q j = p j) : ∀ c, i < c → cnt q c = cnt p c + 1 := by
  intro c
  induction c with
  | zero => intro h; omega
  | succ c ih =>
    intro h
    show cnt q c + (if q c then 1 else 0) = cnt p c + (if p c then 1 else 0) + 1
    by_cases e : i = c
    · have : cnt q c = cnt p c := cnt_ext (fun j hj => h3 j (by omega))
      rw [this, ← e, h1, h2]; rfl
    · rw [ih (by omega), h3 c (fun e2 => e e2.symm)]
      omega
def an1 (s : St) (i : Nat) : Bool := decide (gA s 23 i = io 1)
/-! a rule is made -/
def IN (s s' : St) : Prop := gI s' = gI s ∧ gA s' = gA s ∧ gJ s' = gJ s ∧ gQ s' = gQ s
theorem IN.trans {s s1 s2 : St} (h : IN s s1) (h2 : IN s1 s2) : IN s s2 := ⟨h2.1.trans h.1, h2.2.1.trans h.2.1, h2.2.2.1.trans h.2.2.1, h2.2.2.2.trans h.2.2.2⟩
theorem gF {s s' : St} {q : Nat} {o o' : (Nat → Int32) × (Nat → Option Nat) × (Nat → Int64)} (e : s' = sF s (q, o) 6 o') : gD s' q = some (.inl (6, o')) ∧ (∀ p, p ≠ q → gD s' p = gD s p) ∧ sz s' = sz s ∧ IN s s' := by
  subst e
  exact ⟨by rw [gD_sF, if_pos rfl], fun p hp => by rw [gD_sF, if_neg hp], rfl, rfl, rfl, rfl, rfl⟩
theorem gN {s s' : St} {x : Dy} (e : s' = sN s x) : (∀ p, p ≠ sz s → gD s' p = gD s p) ∧ gD s' (sz s) = some x ∧ sz s' = sz s + 1 ∧ IN s s' := by
  subst e
  exact ⟨fun p hp => by rw [gD_sN, if_neg hp], by rw [gD_sN, if_pos rfl], rfl, rfl, rfl, rfl, rfl⟩
theorem rule_init {F q : Nat} {s : St} {o1 : (Nat → Int32) × (Nat → Option Nat) × (Nat → Int64)} (h1 : gD s q = some (.inl (6, o1))) (hs : sz s = q + 1) (nd : Option Nat) (a b c d : Int32) :
    ∃ s' o, f_Rule_init F s (some q) nd a b c d = some s' ∧ IN s s' ∧ sz s' = q + 3 ∧ gD s' q = some (.inl (6, o)) ∧ gD s' (q + 1) = some (.inr (.inl (1, 5, fun _ => 0))) ∧ gD s' (q + 2) = some (.inr (.inl (1, 5, fun _ => 0))) ∧ (∀ p, p < q → gD s' p = gD s p) ∧ o.1 1 = a ∧ o.1 2 = b ∧ o.1 3 = c ∧ o.1 4 = d ∧ o.1 5 = -1 ∧ o.1 8 = 0 ∧ o.1 9 = 0 ∧ o.1 10 = -1 ∧ o.2.1 0 = nd ∧ o.2.1 6 = some (q + 1) ∧ o.2.1 7 = some (q + 2) := by
  obtain ⟨o2, eo2⟩ : ∃ o2, o2 = (ups o1.1 5 (-1), o1.2) := ⟨_, rfl⟩
  obtain ⟨s2, es2⟩ : ∃ s2, s2 = sF s (q, o1) 6 o2 := ⟨_, rfl⟩
  obtain ⟨gs2, fs2, zs2, is2⟩ := gF es2
  obtain ⟨s3, es3⟩ : ∃ s3, s3 = sN s2 (.inr (.inl (1, 5, fun _ => 0))) := ⟨_, rfl⟩
  obtain ⟨fs3, as3, zs3, is3⟩ := gN es3
  have gs3 := (fs3 q (by omega)).trans gs2
  obtain ⟨o5, eo5⟩ : ∃ o5, o5 = (o2.1, ups o2.2.1 6 (some (sz s2)), o2.2.2) := ⟨_, rfl⟩
  obtain ⟨s5, es5⟩ : ∃ s5, s5 = sF s3 (q, o2) 6 o5 := ⟨_, rfl⟩
  obtain ⟨gs5, fs5, zs5, is5⟩ := gF es5
  obtain ⟨s6, es6⟩ : ∃ s6, s6 = sN s5 (.inr (.inl (1, 5, fun _ => 0))) := ⟨_, rfl⟩
  obtain ⟨fs6, as6, zs6, is6⟩ := gN es6
  have gs6 := (fs6 q (by omega)).trans gs5
  obtain ⟨o8, eo8⟩ : ∃ o8, o8 = (o5.1, ups o5.2.1 7 (some (sz s5)), o5.2.2) := ⟨_, rfl⟩
  obtain ⟨s8, es8⟩ : ∃ s8, s8 = sF s6 (q, o5) 6 o8 := ⟨_, rfl⟩
  obtain ⟨gs8, fs8, zs8, is8⟩ := gF es8
  obtain ⟨o10, eo10⟩ : ∃ o10, o10 = (ups o8.1 8 0, o8.2) := ⟨_, rfl⟩
  obtain ⟨s10, es10⟩ : ∃ s10, s10 = sF s8 (q, o8) 6 o10 := ⟨_, rfl⟩
  obtain ⟨gs10, fs10, zs10, is10⟩ := gF es10
  obtain ⟨o12, eo12⟩ : ∃ o12, o12 = (ups o10.1 9 0, o10.2) := ⟨_, rfl⟩
  obtain ⟨s12, es12⟩ : ∃ s12, s12 = sF s10 (q, o10) 6 o12 := ⟨_, rfl⟩
  obtain ⟨gs12, fs12, zs12, is12⟩ := gF es12
  obtain ⟨o14, eo14⟩ : ∃ o14, o14 = (ups o12.1 10 (-1), o12.2) := ⟨_, rfl⟩
  obtain ⟨s14, es14⟩ : ∃ s14, s14 = sF s12 (q, o12) 6 o14 := ⟨_, rfl⟩
  obtain ⟨gs14, fs14, zs14, is14⟩ := gF es14
  obtain ⟨o16, eo16⟩ : ∃ o16, o16 = (o14.1, ups o14.2.1 0 nd, o14.2.2) := ⟨_, rfl⟩
  obtain ⟨s16, es16⟩ : ∃ s16, s16 = sF s14 (q, o14) 6 o16 := ⟨_, rfl⟩
  obtain ⟨gs16, fs16, zs16, is16⟩ := gF es16
  obtain ⟨o18, eo18⟩ : ∃ o18, o18 = (ups o16.1 1 a, o16.2) := ⟨_, rfl⟩
  obtain ⟨s18, es18⟩ : ∃ s18, s18 = sF s16 (q, o16) 6 o18 := ⟨_, rfl⟩
  obtain ⟨gs18, fs18, zs18, is18⟩ := gF es18
  obtain ⟨o20, eo20⟩ : ∃ o20, o20 = (ups o18.1 2 b, o18.2) := ⟨_, rfl⟩
  obtain ⟨s20, es20⟩ : ∃ s20, s20 = sF s18 (q, o18) 6 o20 := ⟨_, rfl⟩
  obtain ⟨gs20, fs20, zs20, is20⟩ := gF es20
  obtain ⟨o22, eo22⟩ : ∃ o22, o22 = (ups o20.1 3 c, o20.2) := ⟨_, rfl⟩
  obtain ⟨s22, es22⟩ : ∃ s22, s22 = sF s20 (q, o20) 6 o22 := ⟨_, rfl⟩
  obtain ⟨gs22, fs22, zs22, is22⟩ := gF es22
  obtain ⟨o24, eo24⟩ : ∃ o24, o24 = (ups o22.1 4 d, o22.2) := ⟨_, rfl⟩
  obtain ⟨s24, es24⟩ : ∃ s24, s24 = sF s22 (q, o22) 6 o24 := ⟨_, rfl⟩
  obtain ⟨gs24, fs24, zs24, is24⟩ := gF es24
  refine ⟨s24, o24, ?_, ((((((((((((is2).trans is3).trans is5).trans is6).trans is8).trans is10).trans is12).trans is14).trans is16).trans is18).trans is20).trans is22).trans is24, by omega, gs24, ?_, ?_, fun p hp => ?_, ?_⟩
  · simp only [f_Rule_init, Option.bind_some, lt_def, dgo_at h1, ← eo2, ← es2, dgo_at gs2, ← es3, dgo_at gs3, ← eo5, ← es5, dgo_at gs5, ← es6, dgo_at gs6, ← eo8, ← es8, dgo_at gs8, ← eo10, ← es10, dgo_at gs10, ← eo12, ← es12, dgo_at gs12, ← eo14, ← es14, dgo_at gs14, ← eo16, ← es16, dgo_at gs16, ← eo18, ← es18, dgo_at gs18, ← eo20, ← es20, dgo_at gs20, ← eo22, ← es22, dgo_at gs22, ← eo24, ← es24, dgo_at gs24]
  · rw [fs24 _ (by omega), fs22 _ (by omega), fs20 _ (by omega), fs18 _ (by omega), fs16 _ (by omega), fs14 _ (by omega), fs12 _ (by omega), fs10 _ (by omega), fs8 _ (by omega), fs6 _ (by omega), fs5 _ (by omega), (show q + 1 = sz s2 by omega)]; exact as3
  · rw [fs24 _ (by omega), fs22 _ (by omega), fs20 _ (by omega), fs18 _ (by omega), fs16 _ (by omega), fs14 _ (by omega), fs12 _ (by omega), fs10 _ (by omega), fs8 _ (by omega), (show q + 2 = sz s5 by omega)]; exact as6
  · rw [fs24 _ (by omega), fs22 _ (by omega), fs20 _ (by omega), fs18 _ (by omega), fs16 _ (by omega), fs14 _ (by omega), fs12 _ (by omega), fs10 _ (by omega), fs8 _ (by omega), fs6 _ (by omega), fs5 _ (by omega), fs3 _ (by omega), fs2 _ (by omega)]
  · have w2 : sz s2 = q + 1 := by omega
    have w5 : sz s5 = q + 2 := by omega
    simp only [eo24, eo22, eo20, eo18, eo16, eo14, eo12, eo10, eo8, eo5, eo2, w2, w5, ups, reduceIte, Nat.reduceEqDiff, and_self]
theorem in_cases {x : Int32} {l g : Nat} (hg : g ≤ 1000) (hl : l ≤ 1000) : (x < io l ∨ io g < x) ∨ ∃ y, x = io y ∧ l ≤ y ∧ y ≤ g := by
  rcases in_or (x := x) (a := io l) (b := io g) with ⟨n1, r1, r1'⟩ | n1
  · have h0 : io 0 ≤ x := by
      rw [Int32.le_iff_toInt_le, io_toInt (by omega)] at r1 ⊢
      omega
    obtain ⟨p, rfl, hp⟩ := io_in (by omega) h0 r1'
    rw [io_le (by omega) (by omega)] at r1
    exact Or.inr ⟨p, rfl, r1, hp⟩
  · exact Or.inl n1
/-! is a rule due -/
def EID : List Nat := [201, 1985, 1987, 1988, 1989]
def EAD : List Nat := [11, 32, 33]
theorem silent_loop {F : Nat} {s : St} {x : RU} (X : RC1 s x) (hl : (us x).length ≤ 5) (hb : ∀ e ∈ us x, e.1 ≤ e.2 ∧ e.2 ≤ 1000) {th : Nat} (hth : th ≤ 1000) : ∀ k n i, i + k = (us x).length → k < n → f_Rule_isSilentIn_b2 F n s (some (uq x)) (io th) (io i) = some (if silB ((us x).drop i) th then io 1 else io 0, s) := by
  obtain ⟨a1, o, g6, g7, nq, a2, a3, a4, a5, a6, a7, a8, a9, a10, a11, a12, a13, a14, a15, a16, a17⟩ := X
  have d1 := dgo_at a2
  have d6 : dga s (some (uq x + 1)) 1 = some (uq x + 1, 5, g6) := dga_at a3
  have d7 : dga s (some (uq x + 2)) 1 = some (uq x + 2, 5, g7) := dga_at a4
  intro k
  induction k with
  | zero =>
    intro n i hi hn
    obtain ⟨n, rfl⟩ : ∃ n', n = n' + 1 := ⟨n - 1, by omega⟩
    have hi' : i = (us x).length := by omega
    subst hi'
    have e : silB ((us x).drop (us x).length) th = false := by rw [List.drop_length]; rfl
    rw [e]
    simp (disch := omega) only [f_Rule_isSilentIn_b2, Option.bind_some, Nat.reduceEqDiff, Nat.add_zero, Nat.zero_add, Nat.reduceLT, Nat.reduceLeDiff, Nat.reduceAdd, Nat.reduceSub, Nat.reduceMul, Nat.reduceDiv, Nat.lt_irrefl, Nat.not_lt_zero, Nat.zero_le, Nat.one_ne_zero, Nat.succ_ne_zero,  lt_def, i32_lit, reduceIte, P_isIn_eq, or_false, false_or, or_true, true_or, and_true, true_and, and_false, false_and, not_true, not_false_eq_true, eq_self, if_true, if_false, not_or, not_and, Nat.not_lt, Nat.not_le, d1, a10, io_le, Nat.le_refl, reduceCtorEq]
  | succ k ih =>
    intro n i hi hn
    obtain ⟨n, rfl⟩ : ∃ n', n = n' + 1 := ⟨n - 1, by omega⟩
    have hil : i < (us x).length := by omega
    have n1 : ¬ (us x).length ≤ i := by omega
    have n2 : ¬ 5 ≤ i := by omega
    have ihh := ih n (i + 1) (by omega) (by omega)
    obtain ⟨b1, b2⟩ := a17 i hil
    have hbi := hb (us x)[i] (List.getElem_mem hil)
    have ed : (us x).drop i = (us x)[i] :: (us x).drop (i + 1) := List.drop_eq_getElem_cons hil
    have es : silB ((us x).drop i) th = (decide ((us x)[i].1 ≤ th ∧ th ≤ (us x)[i].2) || silB ((us x).drop (i + 1)) th) := by rw [ed]; rfl
    by_cases hc : (us x)[i].1 ≤ th ∧ th ≤ (us x)[i].2
    · have q1 : ¬ th < (us x)[i].1 := by omega
      have q2 : ¬ (us x)[i].2 < th := by omega
      rw [es, decide_eq_true hc, Bool.true_or, if_pos rfl]
      simp (disch := omega) only [f_Rule_isSilentIn_b2, Option.bind_some, Nat.reduceEqDiff, Nat.add_zero, Nat.zero_add, Nat.reduceLT, Nat.reduceLeDiff, Nat.reduceAdd, Nat.reduceSub, Nat.reduceMul, Nat.reduceDiv, Nat.lt_irrefl, Nat.not_lt_zero, Nat.zero_le, Nat.one_ne_zero, Nat.succ_ne_zero,  lt_def, i32_lit, reduceIte, P_isIn_eq, or_false, false_or, or_true, true_or, and_true, true_and, and_false, false_and, not_true, not_false_eq_true, eq_self, if_true, if_false, not_or, not_and, Nat.not_lt, Nat.not_le, d1, a10, a14, a15, d6, d7, io_le, n1, n2, ix_io, b1, b2, io_lt, q1, q2, io_eq]
    · rw [es, decide_eq_false hc, Bool.false_or, ← ihh]
      rcases (by omega : th < (us x)[i].1 ∨ (us x)[i].2 < th) with q1 | q1
      · simp (disch := omega) only [f_Rule_isSilentIn_b2, Option.bind_some, Nat.reduceEqDiff, Nat.add_zero, Nat.zero_add, Nat.reduceLT, Nat.reduceLeDiff, Nat.reduceAdd, Nat.reduceSub, Nat.reduceMul, Nat.reduceDiv, Nat.lt_irrefl, Nat.not_lt_zero, Nat.zero_le, Nat.one_ne_zero, Nat.succ_ne_zero,  lt_def, i32_lit, reduceIte, P_isIn_eq, or_false, false_or, or_true, true_or, and_true, true_and, and_false, false_and, not_true, not_false_eq_true, eq_self, if_true, if_false, not_or, not_and, Nat.not_lt, Nat.not_le, d1, a10, a14, a15, d6, d7, io_le, n1, n2, ix_io, b1, b2, io_lt, q1, io_eq, io_add]
      · simp (disch := omega) only [f_Rule_isSilentIn_b2, Option.bind_some, Nat.reduceEqDiff, Nat.add_zero, Nat.zero_add, Nat.reduceLT, Nat.reduceLeDiff, Nat.reduceAdd, Nat.reduceSub, Nat.reduceMul, Nat.reduceDiv, Nat.lt_irrefl, Nat.not_lt_zero, Nat.zero_le, Nat.one_ne_zero, Nat.succ_ne_zero,  lt_def, i32_lit, reduceIte, P_isIn_eq, or_false, false_or, or_true, true_or, and_true, true_and, and_false, false_and, not_true, not_false_eq_true, eq_self, if_true, if_false, not_or, not_and, Nat.not_lt, Nat.not_le, d1, a10, a14, a15, d6, d7, io_le, n1, n2, ix_io, b1, b2, io_lt, q1, io_eq, io_add]
theorem P_isDue {F h m th l : Nat} (hF : 5000 ≤ F) {s : St} {L : Nat → LR} {x : RU} (LC : LGc s L m) (LG : LGg L m h) (hh : h ≤ 1000) (X : RC1 s x) (hw : 1 ≤ uw x ∧ uw x ≤ 72) (hr : ur x ≤ 72) (hs : (us x).length ≤ 5) (hb : ∀ e ∈ us x, e.1 ≤ e.2 ∧ e.2 ≤ 1000) (h1 : 1 ≤ th) (hth : th ≤ 1000) (hl : l ≤ th) (TT : ∃ vs, TLw s vs) :
    ∃ s', f_P_isDue F s (some (uq x)) (io th) (dn l) = some (if dueB L m x th l then io 1 else io 0, s') ∧ Fr EID EAD s s' ∧ ∃ vs, TLw s' vs := by
  obtain ⟨o, nq, d1, k1, k2, k3, k4, k5, k8, k9, k10, k0, k6, k7, kT, kD⟩ := X.dg
  have hsl := silent_loop (F := F) X hs hb hth (us x).length F 0 (by omega) (by omega)
  rw [List.drop_zero] at hsl
  have hrest : f_Rule_hasRested F s (some (uq x)) (io th) (dn l) = some (if l = 0 ∨ ur x + (l - 1) < th then io 1 else io 0, s) := by
    by_cases hl0 : l = 0
    · have e : dn l = -io 1 := by rw [hl0]; rfl
      rw [if_pos (Or.inl hl0), e]
      simp (disch := omega) only [f_Rule_hasRested, Option.bind_some, Nat.reduceEqDiff, Nat.add_zero, Nat.zero_add, Nat.reduceLT, Nat.reduceLeDiff, Nat.reduceAdd, Nat.reduceSub, Nat.reduceMul, Nat.reduceDiv, Nat.lt_irrefl, Nat.not_lt_zero, Nat.zero_le, Nat.one_ne_zero, Nat.succ_ne_zero,  lt_def, i32_lit, reduceIte, P_isIn_eq, or_false, false_or, or_true, true_or, and_true, true_and, and_false, false_and, not_true, not_false_eq_true, eq_self, if_true, if_false, not_or, not_and, Nat.not_lt, Nat.not_le]
    · rw [dn_pos (by omega)]
      by_cases hc : ur x + (l - 1) < th
      · have n1 : ¬ th - (l - 1) ≤ ur x := by omega
        rw [if_pos (Or.inr hc)]
        simp (disch := omega) only [f_Rule_hasRested, Option.bind_some, Nat.reduceEqDiff, Nat.add_zero, Nat.zero_add, Nat.reduceLT, Nat.reduceLeDiff, Nat.reduceAdd, Nat.reduceSub, Nat.reduceMul, Nat.reduceDiv, Nat.lt_irrefl, Nat.not_lt_zero, Nat.zero_le, Nat.one_ne_zero, Nat.succ_ne_zero,  lt_def, i32_lit, reduceIte, P_isIn_eq, or_false, false_or, or_true, true_or, and_true, true_and, and_false, false_and, not_true, not_false_eq_true, eq_self, if_true, if_false, not_or, not_and, Nat.not_lt, Nat.not_le, io_neg1, d1, k3, io_sub, io_le, n1]
      · have n1 : th - (l - 1) ≤ ur x := by omega
        rw [if_neg (by omega)]
        simp (disch := omega) only [f_Rule_hasRested, Option.bind_some, Nat.reduceEqDiff, Nat.add_zero, Nat.zero_add, Nat.reduceLT, Nat.reduceLeDiff, Nat.reduceAdd, Nat.reduceSub, Nat.reduceMul, Nat.reduceDiv, Nat.lt_irrefl, Nat.not_lt_zero, Nat.zero_le, Nat.one_ne_zero, Nat.succ_ne_zero,  lt_def, i32_lit, reduceIte, P_isIn_eq, or_false, false_or, or_true, true_or, and_true, true_and, and_false, false_and, not_true, not_false_eq_true, eq_self, if_true, if_false, not_or, not_and, Nat.not_lt, Nat.not_le, io_neg1, d1, k3, io_sub, io_le, n1]
  unfold dueB
  by_cases hc : l = 0 ∨ ur x + (l - 1) < th
  · rw [if_pos hc] at hrest
    rw [decide_eq_true hc, Bool.true_and]
    by_cases hsil : silB (us x) th = true
    · rw [if_pos hsil] at hsl
      rw [hsil]
      refine ⟨s, ?_, Fr.rf, TT⟩
      simp (disch := omega) only [f_P_isDue, f_Rule_isSilentIn, Option.bind_some, Nat.reduceEqDiff, Nat.add_zero, Nat.zero_add, Nat.reduceLT, Nat.reduceLeDiff, Nat.reduceAdd, Nat.reduceSub, Nat.reduceMul, Nat.reduceDiv, Nat.lt_irrefl, Nat.not_lt_zero, Nat.zero_le, Nat.one_ne_zero, Nat.succ_ne_zero,  lt_def, i32_lit, reduceIte, P_isIn_eq, or_false, false_or, or_true, true_or, and_true, true_and, and_false, false_and, not_true, not_false_eq_true, eq_self, if_true, if_false, not_or, not_and, Nat.not_lt, Nat.not_le, d1, hrest, io_eq, hsl, Bool.not_true, Bool.false_and, reduceCtorEq]
    · rw [if_neg hsil] at hsl
      have hsf : silB (us x) th = false := by simpa using hsil
      rw [hsf]
      obtain ⟨s1, e1, e2, e3⟩ := pickW_eq (F := F) (th := th) (tb := th - 1) hF LC LG hh X hw hth (by omega)
      obtain ⟨o', nq', d1', -, -, -, -, -, -, -, -, k0', -, -, kT', -⟩ := (X.de e3.de).dg
      obtain ⟨vs, TV⟩ := TT
      obtain ⟨s2, w1, w2, w3⟩ := walk_eq (F := F) hF (Nat.le_refl 40) kT' e2 ⟨vs, TLw.fr TV e3⟩
      refine ⟨s2, ?_, (e3.wide (by decide) (by decide)).trans (w2.1.wide (by decide) (by decide)), w3⟩
      generalize valQ (ev L (pks L m (th + 1 - uw x) th (th - 1))) (uc x) = v at w1
      by_cases hv : v = 0
      · rw [hv] at w1
        have e0 : decide (v ≠ 0) = false := by rw [hv]; decide
        rw [e0]
        simp (disch := omega) only [f_P_isDue, f_Rule_isSilentIn, Option.bind_some, Nat.reduceEqDiff, Nat.add_zero, Nat.zero_add, Nat.reduceLT, Nat.reduceLeDiff, Nat.reduceAdd, Nat.reduceSub, Nat.reduceMul, Nat.reduceDiv, Nat.lt_irrefl, Nat.not_lt_zero, Nat.zero_le, Nat.one_ne_zero, Nat.succ_ne_zero,  lt_def, i32_lit, reduceIte, P_isIn_eq, or_false, false_or, or_true, true_or, and_true, true_and, and_false, false_and, not_true, not_false_eq_true, eq_self, if_true, if_false, not_or, not_and, Nat.not_lt, Nat.not_le, d1, hrest, io_eq, hsl, io_sub, e1, d1', k0', w1, Bool.and_false, reduceCtorEq]
      · have e0 : decide (v ≠ 0) = true := decide_eq_true hv
        rw [e0]
        simp (disch := omega) only [f_P_isDue, f_Rule_isSilentIn, Option.bind_some, Nat.reduceEqDiff, Nat.add_zero, Nat.zero_add, Nat.reduceLT, Nat.reduceLeDiff, Nat.reduceAdd, Nat.reduceSub, Nat.reduceMul, Nat.reduceDiv, Nat.lt_irrefl, Nat.not_lt_zero, Nat.zero_le, Nat.one_ne_zero, Nat.succ_ne_zero,  lt_def, i32_lit, reduceIte, P_isIn_eq, or_false, false_or, or_true, true_or, and_true, true_and, and_false, false_and, not_true, not_false_eq_true, eq_self, if_true, if_false, not_or, not_and, Nat.not_lt, Nat.not_le, d1, hrest, io_eq, hsl, io_sub, e1, d1', k0', w1, hv, Bool.not_false, Bool.true_and, reduceCtorEq]
  · rw [if_neg hc] at hrest
    rw [decide_eq_false hc, Bool.false_and]
    refine ⟨s, ?_, Fr.rf, TT⟩
    simp (disch := omega) only [f_P_isDue, Option.bind_some, Nat.reduceEqDiff, Nat.add_zero, Nat.zero_add, Nat.reduceLT, Nat.reduceLeDiff, Nat.reduceAdd, Nat.reduceSub, Nat.reduceMul, Nat.reduceDiv, Nat.lt_irrefl, Nat.not_lt_zero, Nat.zero_le, Nat.one_ne_zero, Nat.succ_ne_zero,  lt_def, i32_lit, reduceIte, P_isIn_eq, or_false, false_or, or_true, true_or, and_true, true_and, and_false, false_and, not_true, not_false_eq_true, eq_self, if_true, if_false, not_or, not_and, Nat.not_lt, Nat.not_le, d1, hrest, io_eq, reduceCtorEq]
theorem rcn_le {L : Nat → LR} {m : Nat} {x : RU} : ∀ k, (rcn L m x k).1 ≤ k ∧ ((rcn L m x k).2 = 0 ∨ (rcn L m x k).2 ≤ um x + k + 1) ∧ ((rcn L m x k).1 = 0 ↔ (rcn L m x k).2 = 0) := by
  intro k
  induction k with
  | zero => exact ⟨Nat.le_refl _, Or.inl rfl, ⟨fun _ => rfl, fun _ => rfl⟩⟩
  | succ k ih =>
    have e : rcn L m x (k + 1) = if dueB L m x (um x + k + 1) (rcn L m x k).2 = true then ((rcn L m x k).1 + 1, um x + k + 2) else rcn L m x k := rfl
    rw [e]
    by_cases hd : dueB L m x (um x + k + 1) (rcn L m x k).2 = true
    · rw [if_pos hd]
      dsimp only
      omega
    · rw [if_neg hd]
      omega
theorem rcn_l {L : Nat → LR} {m : Nat} {x : RU} (k : Nat) : (rcn L m x k).2 ≤ um x + k + 1 := by
  have := (rcn_le (L := L) (m := m) (x := x) k).2.1
  omega
theorem anew_loop {F Z h m e : Nat} (hF : 5000 ≤ F) {s0 : St} {L : Nat → LR} {x : RU} (LC : LGc s0 L m) (LG : LGg L m h) (hh : h ≤ 1000) (X : RC1 s0 x) (hw : 1 ≤ uw x ∧ uw x ≤ 72) (hr : ur x ≤ 72) (hs : (us x).length ≤ 5) (hb : ∀ e ∈ us x, e.1 ≤ e.2 ∧ e.2 ≤ 1000) (he : um x ≤ e) (he2 : e ≤ 1000) : ∀ k n i s, i + k = e - um x → k < n → Fr EID EAD s0 s → (∃ vs, TLw s vs) →
    ∃ s', f_P_risesAnew_b53 F Z n s (some (uq x)) (io e) (io (rcn L m x i).1) (dn (rcn L m x i).2) (io (um x + i + 1)) = some (.inl (io (rcn L m x (e - um x)).1), s') ∧ Fr EID EAD s0 s' ∧ ∃ vs, TLw s' vs := by
  intro k
  induction k with
  | zero =>
    intro n i s hi hn f TT
    obtain ⟨n, rfl⟩ : ∃ n', n = n' + 1 := ⟨n - 1, by omega⟩
    have hi' : i = e - um x := by omega
    subst hi'
    refine ⟨s, ?_, f, TT⟩
    have q1 : e < um x + (e - um x) + 1 := by omega
    simp (disch := omega) only [f_P_risesAnew_b53, Option.bind_some, Nat.reduceEqDiff, Nat.add_zero, Nat.zero_add, Nat.reduceLT, Nat.reduceLeDiff, Nat.reduceAdd, Nat.reduceSub, Nat.reduceMul, Nat.reduceDiv, Nat.lt_irrefl, Nat.not_lt_zero, Nat.zero_le, Nat.one_ne_zero, Nat.succ_ne_zero,  lt_def, i32_lit, reduceIte, P_isIn_eq, or_false, false_or, or_true, true_or, and_true, true_and, and_false, false_and, not_true, not_false_eq_true, eq_self, if_true, if_false, not_or, not_and, Nat.not_lt, Nat.not_le, io_lt, q1]
  | succ k ih =>
    intro n i s hi hn f TT
    obtain ⟨n, rfl⟩ : ∃ n', n = n' + 1 := ⟨n - 1, by omega⟩
    have q1 : ¬ e < um x + i + 1 := by omega
    have hl := rcn_l (L := L) (m := m) (x := x) i
    have hle := (rcn_le (L := L) (m := m) (x := x) i).1
    obtain ⟨s1, e1, f1, T1⟩ := P_isDue (F := F) (th := um x + i + 1) hF (LC.fr f) LG hh (X.de f.de) hw hr hs hb (by omega) (by omega) hl TT
    obtain ⟨s2, e2, f2, T2⟩ := ih n (i + 1) s1 (by omega) (by omega) (f.trans f1) T1
    refine ⟨s2, ?_, f2, T2⟩
    have er : rcn L m x (i + 1) = if dueB L m x (um x + i + 1) (rcn L m x i).2 = true then ((rcn L m x i).1 + 1, um x + i + 2) else rcn L m x i := rfl
    rw [er] at e2
    generalize rcn L m x (e - um x) = Q at e2 ⊢
    generalize hP : rcn L m x i = P at *
    by_cases hd : dueB L m x (um x + i + 1) P.2 = true
    · rw [if_pos hd] at e1 e2
      have e2' : f_P_risesAnew_b53 F Z n s1 (some (uq x)) (io e) (io (P.1 + 1)) (io (um x + i + 1)) (io (um x + i + 1 + 1)) = some (.inl (io Q.1), s2) := by
        rw [← e2, dn_pos (show 1 ≤ (P.1 + 1, um x + i + 2).2 by show 1 ≤ um x + i + 2; omega)]
        rfl
      simp (disch := omega) only [f_P_risesAnew_b53, Option.bind_some, Nat.reduceEqDiff, Nat.add_zero, Nat.zero_add, Nat.reduceLT, Nat.reduceLeDiff, Nat.reduceAdd, Nat.reduceSub, Nat.reduceMul, Nat.reduceDiv, Nat.lt_irrefl, Nat.not_lt_zero, Nat.zero_le, Nat.one_ne_zero, Nat.succ_ne_zero,  lt_def, i32_lit, reduceIte, P_isIn_eq, or_false, false_or, or_true, true_or, and_true, true_and, and_false, false_and, not_true, not_false_eq_true, eq_self, if_true, if_false, not_or, not_and, Nat.not_lt, Nat.not_le, io_lt, q1, e1, io_eq, io_add, e2']
    · rw [if_neg hd] at e1 e2
      have e2' : f_P_risesAnew_b53 F Z n s1 (some (uq x)) (io e) (io P.1) (dn P.2) (io (um x + i + 1 + 1)) = some (.inl (io Q.1), s2) := e2
      simp (disch := omega) only [f_P_risesAnew_b53, Option.bind_some, Nat.reduceEqDiff, Nat.add_zero, Nat.zero_add, Nat.reduceLT, Nat.reduceLeDiff, Nat.reduceAdd, Nat.reduceSub, Nat.reduceMul, Nat.reduceDiv, Nat.lt_irrefl, Nat.not_lt_zero, Nat.zero_le, Nat.one_ne_zero, Nat.succ_ne_zero,  lt_def, i32_lit, reduceIte, P_isIn_eq, or_false, false_or, or_true, true_or, and_true, true_and, and_false, false_and, not_true, not_false_eq_true, eq_self, if_true, if_false, not_or, not_and, Nat.not_lt, Nat.not_le, io_lt, q1, e1, io_eq, io_add, e2']
/-! hours that come: the ghosts -/
abbrev GS : Type := Nat × RG × Nat × AG × Nat × Nat × (Nat → RU)
def yh (y : GS) : Nat := y.1
def yg (y : GS) : RG := y.2.1
def yd (y : GS) : Nat := y.2.2.1
def ya (y : GS) : AG := y.2.2.2.1
def yc (y : GS) : Nat := y.2.2.2.2.1
def yw (y : GS) : Nat := y.2.2.2.2.2.1
def yu (y : GS) : Nat → RU := y.2.2.2.2.2.2
def uRise (x : RU) (H : Nat) : RU := (uq x, uc x, uo x, uw x, ur x, um x, ud x, us x, un x + 1, H + 1)
def gB (n : Nat) (y : GS) : GS := if (yh y + 1) % 8 = 0 then (yh y + 1, gbeg (yg y) n (yd y) ((yh y + 1) / 8), dbeg (yg y) n (yd y) ((yh y + 1) / 8), wkA (ya y) (yw y) (hold2 (yg y) n (yd y) ((yh y + 1) / 8)) (yh y + 1), yc y, wkW (yw y) (yc y) (hold2 (yg y) n (yd y) ((yh y + 1) / 8)), yu y) else (yh y + 1, yg y, yd y, ya y, yc y, yw y, yu y)
def gr1 (L : Nat → LR) (m : Nat) (y : GS) (r : Nat) : GS := if ud (yu y r) = 0 ∧ dueB L m (yu y r) (yh y) (ul (yu y r)) = true then (yh y, yg y, yd y, wkA (anew (ya y) (yc y) r (yh y)) (yw y) (gho (yg y) (yh y / 8)) (yh y), yc y + 1, wkW (yw y) (yc y + 1) (gho (yg y) (yh y / 8)), ups (yu y) r (uRise (yu y r) (yh y))) else y
def grs (L : Nat → LR) (m : Nat) (y : GS) : Nat → GS
  | 0 => y
  | r + 1 => gr1 L m (grs L m y r) r
def gH (L : Nat → LR) (m n R : Nat) (y : GS) : GS := grs L m (gB n y) R
def gP (L : Nat → LR) (m n R : Nat) (y : GS) : Nat → GS
  | 0 => y
  | k + 1 => gH L m n R (gP L m n R y k)
def GF (L : Nat → LR) (m n R : Nat) (y : GS) : Prop := yh y ≤ 1000 ∧ ROg (yg y) (yh y) n ∧ DBg (yg y) n (yd y) ∧ ALg (ya y) (yh y) n R (yc y) (yw y) ∧ (gho (yg y) (yh y / 8) = -io 1 ∨ yw y = yc y) ∧ RUg (yu y) R (yh y) n ∧ HS L m (yu y) R (yh y) ∧ yc y = csum (yu y) R ∧ LGg L m (yh y)
def GI (L : Nat → LR) (m n R : Nat) (y : GS) (k : Nat) : Prop := 1 ≤ yh y ∧ yh y ≤ 1000 ∧ ROg (yg y) (yh y) n ∧ DBg (yg y) n (yd y) ∧ ALg (ya y) (yh y) n R (yc y) (yw y) ∧ (gho (yg y) (yh y / 8) = -io 1 ∨ yw y = yc y) ∧ RUg (yu y) R (yh y) n ∧ (∀ r, r < R → um (yu y r) < yh y) ∧ (∀ r, r < R → rcn L m (yu y r) (uend (yu y r) (if r < k then yh y else yh y - 1) - um (yu y r)) = (un (yu y r), ul (yu y r))) ∧ yc y = csum (yu y) R ∧ LGg L m (yh y - 1)
theorem LGg.mono {L : Nat → LR} {m h h' : Nat} (G : LGg L m h) (hh : h ≤ h') : LGg L m h' := ⟨G.1, fun k hk => by
  obtain ⟨a, b, c, d, e, f, g⟩ := G.2.1 k hk
  exact ⟨a, b, c, d, e, by omega, g⟩, G.2.2⟩
theorem ALg.hr {a : AG} {h h' n r c w : Nat} (G : ALg a h n r c w) (hh : h ≤ h') : ALg a h' n r c w := ⟨G.1, G.2.1, G.2.2.1, fun i hi => by
  obtain ⟨a1, a2, a3, a4, a5⟩ := G.2.2.2 i hi
  refine ⟨a1, a2, by omega, a4, ?_⟩
  rcases a5 with ⟨b1, b2, b3, b4⟩ | a5
  · exact Or.inl ⟨b1, b2, b3, by omega⟩
  · exact Or.inr a5⟩
theorem RG1.hr {x : RU} {h h' n : Nat} (G : RG1 h n x) (hh : h ≤ h') : RG1 h' n x := by
  obtain ⟨g1, g2, g3, g4, g5, g6, g7, g8, g9, g10, g11, g12, g13⟩ := G
  exact ⟨g1, g2, g3, g4, g5, g6, by omega, by omega, g9, g10, g11, by omega, by omega⟩
theorem RUg.hr {u : Nat → RU} {R h h' n : Nat} (G : RUg u R h n) (hh : h ≤ h') : RUg u R h' n := ⟨G.1, fun r hr => (G.2.1 r hr).hr hh, G.2.2⟩
theorem ROg.hr {g : RG} {h h' n : Nat} (G : ROg g h n) (hh : h ≤ h') : ROg g h' n := fun j hj => by
  obtain ⟨a, b, c, d⟩ := G j hj
  exact ⟨a, b, c, fun e => d (by omega)⟩
theorem GF.begin {L : Nat → LR} {m n R : Nat} {y : GS} (G : GF L m n R y) (hn : n ≤ 8) (h1 : yh y + 1 ≤ 1000) : GI L m n R (gB n y) 0 := by
  obtain ⟨a1, a2, a3, a4, a5, a6, a7, a8, a9⟩ := G
  have hj : (yh y + 1) / 8 < 126 := by omega
  have hum : ∀ r, r < R → um (yu y r) < yh y + 1 := fun r hr => by have := (a6.2.1 r hr).2.2.2.2.2.2.1; omega
  have hrc : ∀ r, r < R → rcn L m (yu y r) (uend (yu y r) (if r < 0 then yh y + 1 else yh y + 1 - 1) - um (yu y r)) = (un (yu y r), ul (yu y r)) := fun r hr => by
    rw [if_neg (Nat.not_lt_zero r), Nat.add_sub_cancel]; exact a7 r hr
  have hlg : LGg L m (yh y + 1 - 1) := by rw [Nat.add_sub_cancel]; exact a9
  unfold gB
  by_cases h8 : (yh y + 1) % 8 = 0
  · rw [if_pos h8]
    have hnob := hold2_nob (d := yd y) a2 a3 hj hn
    refine ⟨by show 1 ≤ yh y + 1; omega, h1, a2.beg (h' := yh y + 1) a3 hn hj rfl (by omega), a3.beg, (a4.hr (by omega)).wake hn hnob, ?_, a6.hr (Nat.le_succ _), hum, hrc, a8, hlg⟩
    show gho (gbeg (yg y) n (yd y) ((yh y + 1) / 8)) ((yh y + 1) / 8) = -io 1 ∨ wkW (yw y) (yc y) (hold2 (yg y) n (yd y) ((yh y + 1) / 8)) = yc y
    rw [gbeg_ho]
    unfold ups wkW
    rw [if_pos rfl]
    by_cases e : hold2 (yg y) n (yd y) ((yh y + 1) / 8) = -io 1
    · exact Or.inl e
    · exact Or.inr (if_neg e)
  · rw [if_neg h8]
    refine ⟨by show 1 ≤ yh y + 1; omega, h1, a2.hr (Nat.le_succ _), a3, a4.hr (Nat.le_succ _), ?_, a6.hr (Nat.le_succ _), hum, hrc, a8, hlg⟩
    show gho (yg y) ((yh y + 1) / 8) = -io 1 ∨ yw y = yc y
    have e : (yh y + 1) / 8 = yh y / 8 := by omega
    rw [e]; exact a5
theorem csum_one {u : Nat → RU} {r : Nat} {x : RU} (hx : un x = un (u r) + 1) : ∀ R, r < R → csum (ups u r x) R = csum u R + 1 := by
  intro R
  induction R with
  | zero => intro h; omega
  | succ R ih =>
    intro h
    show csum (ups u r x) R + un (ups u r x R) = csum u R + un (u R) + 1
    by_cases e : R = r
    · have e2 : ∀ k, k ≤ R → csum (ups u r x) k = csum u k := by
        intro k
        induction k with
        | zero => intro _; rfl
        | succ k ih =>
          intro hk
          show csum (ups u r x) k + un (ups u r x k) = csum u k + un (u k)
          rw [ih (by omega)]
          unfold ups
          rw [if_neg (by omega)]
      rw [e2 R (Nat.le_refl _)]
      unfold ups
      rw [if_pos e, hx, ← e]; omega
    · rw [ih (by omega)]
      unfold ups
      rw [if_neg e]; omega
theorem csum_lt {u : Nat → RU} {k : Nat} : ∀ R, (∀ r, r < R → un (u r) ≤ 1000) → k < R → un (u k) ≤ 999 → csum u R + 1 ≤ 1000 * R := by
  have hle : ∀ R, (∀ r, r < R → un (u r) ≤ 1000) → csum u R ≤ 1000 * R := by
    intro R
    induction R with
    | zero => intro _; exact Nat.le_refl _
    | succ R ih =>
      intro h
      have := h R (by omega)
      have := ih (fun r hr => h r (by omega))
      show csum u R + un (u R) ≤ _
      omega
  intro R
  induction R with
  | zero => intro _ h; omega
  | succ R ih =>
    intro h hk h9
    show csum u R + un (u R) + 1 ≤ _
    by_cases e : k = R
    · subst e
      have := hle k (fun r hr => h r (by omega))
      omega
    · have := ih (fun r hr => h r (by omega)) (by omega) h9
      have := h R (by omega)
      omega
theorem GI.room {L : Nat → LR} {m n R k : Nat} {y : GS} (G : GI L m n R y k) (hk : k < R) (hd : ud (yu y k) = 0) : yc y < 4000 ∧ un (yu y k) ≤ yh y - 1 := by
  obtain ⟨a0, a1, a2, a3, a4, a5, a6, b1, b2, a8, a9⟩ := G
  have h2 := b2 k hk
  rw [if_neg (Nat.lt_irrefl k)] at h2
  have e : uend (yu y k) (yh y - 1) = yh y - 1 := if_pos hd
  rw [e] at h2
  have h3 := (rcn_le (L := L) (m := m) (x := yu y k) (yh y - 1 - um (yu y k))).1
  rw [h2] at h3
  have h3' : un (yu y k) ≤ yh y - 1 - um (yu y k) := h3
  have hR := a6.1
  have h4 := csum_lt (u := yu y) (k := k) R (fun r hr => by have := (a6.2.1 r hr).2.2.2.2.2.2.2.2.2.2.2.2; omega) hk (by omega)
  omega
theorem GI.step {L : Nat → LR} {m n R k : Nat} {y : GS} (G : GI L m n R y k) (hn : n ≤ 8) (hk : k < R) : GI L m n R (gr1 L m y k) (k + 1) := by
  have hroom := G.room hk
  obtain ⟨a0, a1, a2, a3, a4, a5, a6, b1, b2, a8, a9⟩ := G
  have hoth : ∀ r, r ≠ k → (if r < k + 1 then yh y else yh y - 1) = (if r < k then yh y else yh y - 1) := fun r hr => by
    by_cases e : r < k
    · rw [if_pos e, if_pos (by omega)]
    · rw [if_neg e, if_neg (by omega)]
  have h2 := b2 k hk
  rw [if_neg (Nat.lt_irrefl k)] at h2
  have hm := b1 k hk
  have hstep : ud (yu y k) = 0 → rcn L m (yu y k) (yh y - um (yu y k)) = if dueB L m (yu y k) (yh y) (ul (yu y k)) = true then (un (yu y k) + 1, yh y + 1) else (un (yu y k), ul (yu y k)) := fun hd => by
    have e : uend (yu y k) (yh y - 1) = yh y - 1 := if_pos hd
    rw [e] at h2
    have e1 : yh y - um (yu y k) = (yh y - 1 - um (yu y k)) + 1 := by omega
    rw [e1]
    unfold rcn
    rw [h2]
    have e2 : um (yu y k) + (yh y - 1 - um (yu y k)) + 1 = yh y := by omega
    have e3 : um (yu y k) + (yh y - 1 - um (yu y k)) + 2 = yh y + 1 := by omega
    rw [e2, e3]
  unfold gr1
  by_cases hc : ud (yu y k) = 0 ∧ dueB L m (yu y k) (yh y) (ul (yu y k)) = true
  · rw [if_pos hc]
    obtain ⟨hd, hdue⟩ := hc
    obtain ⟨r1, r2⟩ := hroom hd
    have hs := hstep hd
    rw [if_pos hdue] at hs
    have hnob : nob n (gho (yg y) (yh y / 8)) := (a2 (yh y / 8) (by omega)).2.2.1
    obtain ⟨g1, g2, g3, g4, g5, g6, g7, g8, g9, g10, g11, g12, g13⟩ := a6.2.1 k hk
    refine ⟨a0, a1, a2, a3, (a4.new r1 hk a0).wake hn hnob, ?_, a6.upd hk rfl ⟨g1, g2, g3, g4, g5, g6, g7, g8, g9, g10, ?_, Nat.le_refl _, ?_⟩, fun r hr => ?_, fun r hr => ?_, ?_, a9⟩
    · show gho (yg y) (yh y / 8) = -io 1 ∨ wkW (yw y) (yc y + 1) (gho (yg y) (yh y / 8)) = yc y + 1
      unfold wkW
      by_cases e : gho (yg y) (yh y / 8) = -io 1
      · exact Or.inl e
      · exact Or.inr (if_neg e)
    · show un (yu y k) + 1 = 0 ↔ yh y + 1 = 0
      omega
    · show un (yu y k) + 1 ≤ yh y
      omega
    · show um (ups (yu y) k (uRise (yu y k) (yh y)) r) < yh y
      by_cases e : r = k
      · have e2 : ups (yu y) k (uRise (yu y k) (yh y)) r = uRise (yu y k) (yh y) := if_pos e
        rw [e2]; exact hm
      · have e2 : ups (yu y) k (uRise (yu y k) (yh y)) r = yu y r := if_neg e
        rw [e2]; exact b1 r hr
    · show rcn L m (ups (yu y) k (uRise (yu y k) (yh y)) r) (uend (ups (yu y) k (uRise (yu y k) (yh y)) r) (if r < k + 1 then yh y else yh y - 1) - um (ups (yu y) k (uRise (yu y k) (yh y)) r)) = (un (ups (yu y) k (uRise (yu y k) (yh y)) r), ul (ups (yu y) k (uRise (yu y k) (yh y)) r))
      by_cases e : r = k
      · have e2 : ups (yu y) k (uRise (yu y k) (yh y)) r = uRise (yu y k) (yh y) := if_pos e
        have e3 : uend (uRise (yu y k) (yh y)) (yh y) = yh y := if_pos hd
        rw [e2, if_pos (by omega), e3]
        have e4 : rcn L m (uRise (yu y k) (yh y)) (yh y - um (yu y k)) = rcn L m (yu y k) (yh y - um (yu y k)) := rcn_congr (x := yu y k) (y := uRise (yu y k) (yh y)) rfl _ (fun th l _ _ => rfl)
        exact e4.trans hs
      · have e2 : ups (yu y) k (uRise (yu y k) (yh y)) r = yu y r := if_neg e
        rw [e2, hoth r e]; exact b2 r hr
    · show yc y + 1 = csum (ups (yu y) k (uRise (yu y k) (yh y))) R
      rw [csum_one rfl R hk, a8]
  · rw [if_neg hc]
    refine ⟨a0, a1, a2, a3, a4, a5, a6, b1, fun r hr => ?_, a8, a9⟩
    by_cases e : r = k
    · rw [e, if_pos (by omega)]
      by_cases hd : ud (yu y k) = 0
      · have e3 : uend (yu y k) (yh y) = yh y := if_pos hd
        rw [e3, hstep hd, if_neg (fun h => hc ⟨hd, h⟩)]
      · have e3 : uend (yu y k) (yh y) = uend (yu y k) (yh y - 1) := by unfold uend; rw [if_neg hd, if_neg hd]
        rw [e3]; exact h2
    · rw [hoth r e]; exact b2 r hr
theorem GI.full {L : Nat → LR} {m n R : Nat} {y : GS} (G : GI L m n R y R) : GF L m n R y := by
  obtain ⟨a0, a1, a2, a3, a4, a5, a6, b1, b2, a8, a9⟩ := G
  refine ⟨a1, a2, a3, a4, a5, a6, fun r hr => ?_, a8, a9.mono (by omega)⟩
  have := b2 r hr
  rwa [if_pos hr] at this
theorem gR_h {L : Nat → LR} {m : Nat} {y : GS} {r : Nat} : yh (gr1 L m y r) = yh y ∧ yd (gr1 L m y r) = yd y ∧ yc y ≤ yc (gr1 L m y r) ∧ yg (gr1 L m y r) = yg y := by
  unfold gr1
  by_cases hc : ud (yu y r) = 0 ∧ dueB L m (yu y r) (yh y) (ul (yu y r)) = true
  · rw [if_pos hc]; exact ⟨rfl, rfl, Nat.le_succ _, rfl⟩
  · rw [if_neg hc]; exact ⟨rfl, rfl, Nat.le_refl _, rfl⟩
theorem gB_h {n : Nat} {y : GS} : yh (gB n y) = yh y + 1 ∧ yd (gB n y) ≤ yd y ∧ yc (gB n y) = yc y := by
  unfold gB
  by_cases h8 : (yh y + 1) % 8 = 0
  · rw [if_pos h8]
    refine ⟨rfl, ?_, rfl⟩
    show dbeg (yg y) n (yd y) ((yh y + 1) / 8) ≤ yd y
    unfold dbeg
    split <;> omega
  · rw [if_neg h8]; exact ⟨rfl, Nat.le_refl _, rfl⟩
theorem gRs_h {L : Nat → LR} {m : Nat} {y : GS} : ∀ r, yh (grs L m y r) = yh y ∧ yd (grs L m y r) = yd y ∧ yc y ≤ yc (grs L m y r) ∧ yg (grs L m y r) = yg y := by
  intro r
  induction r with
  | zero => exact ⟨rfl, rfl, Nat.le_refl _, rfl⟩
  | succ r ih =>
    obtain ⟨i1, i2, i3, i4⟩ := ih
    obtain ⟨j1, j2, j3, j4⟩ := gR_h (L := L) (m := m) (y := grs L m y r) (r := r)
    exact ⟨j1.trans i1, j2.trans i2, Nat.le_trans i3 j3, j4.trans i4⟩
theorem gP_h {L : Nat → LR} {m n R : Nat} {y : GS} : ∀ k, yh (gP L m n R y k) = yh y + k ∧ yd (gP L m n R y k) ≤ yd y ∧ yc y ≤ yc (gP L m n R y k) := by
  intro k
  induction k with
  | zero => exact ⟨rfl, Nat.le_refl _, Nat.le_refl _⟩
  | succ k ih =>
    obtain ⟨i1, i2, i3⟩ := ih
    obtain ⟨b1, b2, b3⟩ := gB_h (n := n) (y := gP L m n R y k)
    obtain ⟨j1, j2, j3, -⟩ := gRs_h (L := L) (m := m) (y := gB n (gP L m n R y k)) R
    refine ⟨?_, ?_, ?_⟩
    · show yh (grs L m (gB n (gP L m n R y k)) R) = _
      omega
    · show yd (grs L m (gB n (gP L m n R y k)) R) ≤ _
      omega
    · show _ ≤ yc (grs L m (gB n (gP L m n R y k)) R)
      omega
theorem GI.steps {L : Nat → LR} {m n R : Nat} {y : GS} (G : GI L m n R y 0) (hn : n ≤ 8) : ∀ k, k ≤ R → GI L m n R (grs L m y k) k := by
  intro k
  induction k with
  | zero => intro _; exact G
  | succ k ih => intro h; exact (ih (by omega)).step hn (by omega)
theorem GF.hour {L : Nat → LR} {m n R : Nat} {y : GS} (G : GF L m n R y) (hn : n ≤ 8) (h1 : yh y + 1 ≤ 1000) : GF L m n R (gH L m n R y) := ((G.begin hn h1).steps hn R (Nat.le_refl _)).full
theorem GF.hours {L : Nat → LR} {m n R : Nat} {y : GS} (G : GF L m n R y) (hn : n ≤ 8) : ∀ k, yh y + k ≤ 1000 → GF L m n R (gP L m n R y k) := by
  intro k
  induction k with
  | zero => intro _; exact G
  | succ k ih =>
    intro h
    have := (gP_h (L := L) (m := m) (n := n) (R := R) (y := y) k).1
    exact (ih (by omega)).hour hn (by omega)

/-! hours that come: the class -/
def CI (L : Nat → LR) (m n R : Nat) (s : St) (y : GS) : Prop := gI s 2 = io (yh y) ∧ PEc s n ∧ ROc s (yg y) ∧ DBc s (yg y) (yd y) ∧ ALc s (ya y) (yc y) (yw y) ∧ RUc s (yu y) R ∧ LGc s L m ∧ ∃ vs, TLw s vs
def EIp : List Nat := [2, 774, 1157, 1158, 201, 1985, 1987, 1988, 1989]
def EAp : List Nat := [15, 16, 17, 19, 20, 21, 22, 11, 32, 33]
theorem PEc.fy {eI eA : List Nat} {s s' : St} {n : Nat} (P : PEc s n) (f : FY eI eA s s') (d : 768 ∉ eI := by decide) : PEc s' n := ⟨P.1, (f.1 768 d).trans P.2⟩
theorem ROc.fy {eI eA : List Nat} {s s' : St} {g : RG} (P : ROc s g) (f : FY eI eA s s') (d1 : 13 ∉ eA := by decide) (d2 : 14 ∉ eA := by decide) (d3 : 15 ∉ eA := by decide) : ROc s' g := fun j hj => by
  have e1 : gA s' 13 = gA s 13 := f.2.1 13 d1
  have e2 : gA s' 14 = gA s 14 := f.2.1 14 d2
  have e3 : gA s' 15 = gA s 15 := f.2.1 15 d3
  rw [e1, e2, e3]; exact P j hj
theorem DBc.fy {eI eA : List Nat} {s s' : St} {g : RG} {d : Nat} (P : DBc s g d) (f : FY eI eA s s') (d1 : 774 ∉ eI := by decide) (d2 : 16 ∉ eA := by decide) (d3 : 17 ∉ eA := by decide) : DBc s' g d := by
  have e1 : gI s' 774 = gI s 774 := f.1 774 d1
  have e2 : gA s' 16 = gA s 16 := f.2.1 16 d2
  have e3 : gA s' 17 = gA s 17 := f.2.1 17 d3
  unfold DBc
  rw [e1, e2, e3]; exact P
theorem ALc.fy {eI eA : List Nat} {s s' : St} {a : AG} {c w : Nat} (P : ALc s a c w) (f : FY eI eA s s') (d1 : 1157 ∉ eI := by decide) (d2 : 1158 ∉ eI := by decide) (d3 : ∀ k ∈ [19, 20, 21, 22, 23], k ∉ eA := by decide) : ALc s' a c w := by
  have e1 : gI s' 1157 = gI s 1157 := f.1 1157 d1
  have e2 : gI s' 1158 = gI s 1158 := f.1 1158 d2
  have e3 : gA s' 19 = gA s 19 := f.2.1 19 (d3 19 (by decide))
  have e4 : gA s' 20 = gA s 20 := f.2.1 20 (d3 20 (by decide))
  have e5 : gA s' 21 = gA s 21 := f.2.1 21 (d3 21 (by decide))
  have e6 : gA s' 22 = gA s 22 := f.2.1 22 (d3 22 (by decide))
  have e7 : gA s' 23 = gA s 23 := f.2.1 23 (d3 23 (by decide))
  unfold ALc
  rw [e1, e2, e3, e4, e5, e6, e7]; exact P
theorem Fr.fy {eI eA : List Nat} {s s' : St} (f : Fr eI eA s s') : FY eI eA s s' := f.fx.swD
theorem FY.trans {eI eA : List Nat} {s s1 s2 : St} (h : FY eI eA s s1) (h2 : FY eI eA s1 s2) : FY eI eA s s2 := ⟨fun k hk => (h2.1 k hk).trans (h.1 k hk), fun k hk => (h2.2.1 k hk).trans (h.2.1 k hk), rfl, rfl, Nat.le_trans h.2.2.2.2 h2.2.2.2.2⟩
theorem FY.wide {eI eA eI' eA' : List Nat} {s s1 : St} (h : FY eI eA s s1) (h1 : ∀ k ∈ eI, k ∈ eI') (h2 : ∀ k ∈ eA, k ∈ eA') : FY eI' eA' s s1 := Fr.wide h h1 h2
/-- the class: the hour begins -/
theorem P_hold2g {F h n j : Nat} {s : St} {g : RG} (R : ROc s g) (hj : j < 126) : f_Rota_holderOf F s (io j) = some (gho g j, s) := by
  have h1 : ¬ 125 < j := by omega
  have e := (R j hj).2.2
  simp (disch := omega) only [f_Rota_holderOf, Option.bind_some, Nat.reduceEqDiff, Nat.add_zero, Nat.zero_add, Nat.reduceLT, Nat.reduceLeDiff, Nat.reduceAdd, Nat.reduceSub, Nat.reduceMul, Nat.reduceDiv, Nat.lt_irrefl, Nat.not_lt_zero, Nat.zero_le, Nat.one_ne_zero, Nat.succ_ne_zero,  lt_def, i32_lit, reduceIte, P_isIn_eq, or_false, false_or, or_true, true_or, and_true, true_and, and_false, false_and, not_true, not_false_eq_true, eq_self, if_true, if_false, not_or, not_and, Nat.not_lt, Nat.not_le, io_lt, h1, io_eq, ix_io, e]
theorem CI.begin {F m n R : Nat} (hF : 5000 ≤ F) {L : Nat → LR} {s : St} {y : GS} (C : CI L m n R s y) (G : GF L m n R y) (hn : n ≤ 8) (h1 : yh y + 1 ≤ 1000) : ∃ s', f_P_comeHour F s = f_P_comeHour_b57 F F s' (io (yh (gB n y) / 8)) (io 0) ∧ CI L m n R s' (gB n y) ∧ FY EIp EAp s s' := by
  obtain ⟨c1, c2, c3, c4, c5, c6, c7, vs, c8⟩ := C
  obtain ⟨a1, a2, a3, a4, a5, a6, a7, a8, a9⟩ := G
  have hj : (yh y + 1) / 8 < 126 := by omega
  obtain ⟨s1, hs1⟩ : ∃ s1, s1 = sI s 2 (io (yh y + 1)) := ⟨_, rfl⟩
  have f1 : Fr [2] [] s s1 := by rw [hs1]; exact Fr.rf.I (by decide)
  have e2 : gI s1 2 = io (yh y + 1) := by rw [hs1, gI_sI, if_pos rfl]
  unfold gB
  by_cases h8 : (yh y + 1) % 8 = 0
  · rw [if_pos h8]
    have hm8 : yh y + 1 - (yh y + 1) / 8 * 8 = 0 := by omega
    obtain ⟨s2, b1, b2, b3, b4⟩ := P_begin (F := F) hF (c2.fy f1.fy) (c3.fy f1.fy) a2 (c4.fy f1.fy) a3 hj
    have hnob := hold2_nob (d := yd y) a2 a3 hj hn
    have hho := P_hold2g (F := F) (h := 0) (n := 0) b2 hj
    have e3 : gho (gbeg (yg y) n (yd y) ((yh y + 1) / 8)) ((yh y + 1) / 8) = hold2 (yg y) n (yd y) ((yh y + 1) / 8) := by
      rw [gbeg_ho]
      exact if_pos rfl
    rw [e3] at hho
    have e22 : gI s2 2 = io (yh y + 1) := by rw [b4.gi 2 (by decide)]; exact e2
    obtain ⟨s3, w1, w2, w3⟩ := P_wake (F := F) (h := yh y + 1) hF ((c5.fy f1.fy).fy b4.fy) (a4.hr (Nat.le_succ _)) hn hnob
    have e23 : gI s3 2 = io (yh y + 1) := by rw [w3.gi 2 (by decide)]; exact e22
    have f3 : Fr EIp EAp s s3 := (f1.wide (by decide) (by decide)).trans ((b4.wide (by decide) (by decide)).trans (w3.wide (by decide) (by decide)))
    have f23 : Fr [774, 1158] [15, 16, 17, 21, 22] s1 s3 := (b4.wide (by decide) (by decide)).trans (w3.wide (by decide) (by decide))
    refine ⟨s3, ?_, ⟨e23, (c2.fy f3.fy), b2.fy w3.fy, b3.fy w3.fy, w2, (c6.fr f1).fr f23, c7.fr f3, vs, TLw.fr (TLw.fr c8 f1) f23⟩, f3.fy⟩
    simp (disch := omega) only [f_P_comeHour, Option.bind_some, Nat.reduceEqDiff, Nat.add_zero, Nat.zero_add, Nat.reduceLT, Nat.reduceLeDiff, Nat.reduceAdd, Nat.reduceSub, Nat.reduceMul, Nat.reduceDiv, Nat.lt_irrefl, Nat.not_lt_zero, Nat.zero_le, Nat.one_ne_zero, Nat.succ_ne_zero,  lt_def, i32_lit, reduceIte, P_isIn_eq, or_false, false_or, or_true, true_or, and_true, true_and, and_false, false_and, not_true, not_false_eq_true, eq_self, if_true, if_false, not_or, not_and, Nat.not_lt, Nat.not_le, c1, io_add, ← hs1, e2, io_div, io_mul, io_sub, hm8, io_eq, b1, hho, e22, w1]
    rfl
  · rw [if_neg h8]
    have hm8 : ¬ yh y + 1 - (yh y + 1) / 8 * 8 = 0 := by omega
    refine ⟨s1, ?_, ⟨e2, c2.fy f1.fy, c3.fy f1.fy, c4.fy f1.fy, c5.fy f1.fy, c6.fr f1, c7.fr f1, vs, TLw.fr c8 f1⟩, (f1.wide (by decide) (by decide)).fy⟩
    simp (disch := omega) only [f_P_comeHour, Option.bind_some, Nat.reduceEqDiff, Nat.add_zero, Nat.zero_add, Nat.reduceLT, Nat.reduceLeDiff, Nat.reduceAdd, Nat.reduceSub, Nat.reduceMul, Nat.reduceDiv, Nat.lt_irrefl, Nat.not_lt_zero, Nat.zero_le, Nat.one_ne_zero, Nat.succ_ne_zero,  lt_def, i32_lit, reduceIte, P_isIn_eq, or_false, false_or, or_true, true_or, and_true, true_and, and_false, false_and, not_true, not_false_eq_true, eq_self, if_true, if_false, not_or, not_and, Nat.not_lt, Nat.not_le, c1, io_add, ← hs1, e2, io_div, io_mul, io_sub, hm8, io_eq]
    rfl
theorem CI.room {L : Nat → LR} {m n R k : Nat} {y : GS} (G : GI L m n R y k) (hk : k < R) (hd : ud (yu y k) = 0) : ul (yu y k) ≤ yh y := by
  obtain ⟨a0, a1, a2, a3, a4, a5, a6, b1, b2, a8, a9⟩ := G
  have h2 := b2 k hk
  have hm := b1 k hk
  rw [if_neg (Nat.lt_irrefl k)] at h2
  have e : uend (yu y k) (yh y - 1) = yh y - 1 := if_pos hd
  rw [e] at h2
  have h3 := rcn_l (L := L) (m := m) (x := yu y k) (yh y - 1 - um (yu y k))
  rw [h2] at h3
  have h3' : ul (yu y k) ≤ um (yu y k) + (yh y - 1 - um (yu y k)) + 1 := h3
  omega
/-- the class: one rule's cell, when it rises -/
theorem rise_cell {s : St} {u : Nat → RU} {R h n k H : Nat} (C : RUc s u R) (G : RUg u R h n) (hk : k < R) {o oa ob : (Nat → Int32) × (Nat → Option Nat) × (Nat → Int64)} {sa sb : St} (kD : gD s (uq (u k)) = some (.inl (6, o))) (eoa : oa = (ups o.1 10 (io H), o.2)) (esa : sa = sF s (uq (u k), o) 6 oa) (eob : ob = (ups oa.1 9 (io (un (u k) + 1)), oa.2)) (esb : sb = sF sa (uq (u k), oa) 6 ob) : RUc sb (ups u k (uRise (u k) H)) R := by
  obtain ⟨ga, fa, za, ia⟩ := gF esa
  obtain ⟨gb, fb, zb, ib⟩ := gF esb
  obtain ⟨a1, o', g6, g7, nq, a2, a3, a4, a5, a6, a7, a8, a9, a10, a11, a12, a13, a14, a15, a16, a17⟩ := (C.2 k hk).2
  rw [kD] at a2
  cases a2
  have hq : uq (uRise (u k) H) = uq (u k) := rfl
  have nm : NM s sb := ⟨by rw [zb, za]; exact Nat.le_refl _, fun p o2 hp hp2 => by
    by_cases e : p = uq (u k)
    · rw [e, kD] at hp2; cases hp2
    · rw [fb p e, fa p e]; exact hp2⟩
  refine C.upd G hk hq (fun p hp hps => ?_) nm (by rw [ib.1, ia.1]) (by rw [ib.2.2.2, ia.2.2.2]) ?_
  · rw [hq] at hp
    rw [fb p (by omega), fa p (by omega)]
  · have o9 : ob.1 9 = io (un (u k) + 1) := by
      rw [eob]
      show (if 9 = 9 then io (un (u k) + 1) else oa.1 9) = _
      rw [if_pos rfl]
    have oo : ∀ j, j ≠ 9 → j ≠ 10 → ob.1 j = o.1 j := fun j h1 h2 => by
      rw [eob, eoa]
      show (if j = 9 then _ else if j = 10 then _ else o.1 j) = _
      rw [if_neg h1, if_neg h2]
    have o10 : ob.1 10 = io H := by
      rw [eob, eoa]
      show (if 10 = 9 then io (un (u k) + 1) else if 10 = 10 then io H else o.1 10) = _
      rw [if_neg (by decide), if_pos rfl]
    have o2 : ob.2 = o.2 := by rw [eob, eoa]
    refine ⟨by rw [hq, zb, za]; exact a1, ob, g6, g7, nq, by rw [hq]; exact gb, by rw [hq, fb _ (by omega), fa _ (by omega)]; exact a3, by rw [hq, fb _ (by omega), fa _ (by omega)]; exact a4, ?_⟩
    refine ⟨(oo 1 (by decide) (by decide)).trans a5, (oo 2 (by decide) (by decide)).trans a6, (oo 3 (by decide) (by decide)).trans a7, (oo 4 (by decide) (by decide)).trans a8, (oo 5 (by decide) (by decide)).trans a9, (oo 8 (by decide) (by decide)).trans a10, o9, ?_, by rw [o2]; exact a13, by rw [o2]; exact a14, by rw [o2]; exact a15, TQ.nm nm _ _ _ a16, a17⟩
    show ob.1 10 = dn (H + 1)
    rw [dn_succ]; exact o10
theorem CI.step {F m n R k N : Nat} (hF : 5000 ≤ F) {L : Nat → LR} {s : St} {y : GS} (C : CI L m n R s y) (G : GI L m n R y k) (hn : n ≤ 8) (hk : k < R) : ∃ s', f_P_comeHour_b57 F (N + 1) s (io (yh y / 8)) (io k) = f_P_comeHour_b57 F N s' (io (yh y / 8)) (io (k + 1)) ∧ CI L m n R s' (gr1 L m y k) ∧ FY EIp EAp s s' := by
  have hroom := G.room hk
  have hul := CI.room G hk
  obtain ⟨c1, c2, c3, c4, c5, c6, c7, c8⟩ := C
  obtain ⟨a0, a1, a2, a3, a4, a5, a6, b1, b2, a8, a9⟩ := G
  have hR := a6.1
  obtain ⟨g1, g2, g3, g4, g5, g6, g7, g8, g9, g10, g11, g12, g13⟩ := a6.2.1 k hk
  obtain ⟨o, nq, d1, k1, k2, k3, k4, k5, k8, k9, k10, k0, k6, k7, kT, kD⟩ := (c6.2 k hk).2.dg
  have hne : ¬ some (uq (yu y k)) = none := by simp
  have hrt := ruleAt_t (F := F) c6 hR hk
  have n1 : ¬ R ≤ k := by omega
  have e4 := c6.1
  unfold gr1
  by_cases hd : ud (yu y k) = 0
  · have k5' : o.1 5 = -io 1 := by rw [k5, hd]; rfl
    obtain ⟨s1, e1, f1, T1⟩ := P_isDue (F := F) (th := yh y) hF c7 a9 (by omega) (c6.2 k hk).2 ⟨g4, g5⟩ g6 g9 g10 a0 a1 (hul hd) c8
    by_cases hc : dueB L m (yu y k) (yh y) (ul (yu y k)) = true
    · rw [if_pos ⟨hd, hc⟩]
      rw [if_pos hc] at e1
      obtain ⟨r1, r2⟩ := hroom hd
      have kD1 : gD s1 (uq (yu y k)) = some (.inl (6, o)) := by rw [f1.2.2.2.1]; exact kD
      obtain ⟨oa, eoa⟩ : ∃ oa, oa = (ups o.1 10 (io (yh y)), o.2) := ⟨_, rfl⟩
      obtain ⟨sa, esa⟩ : ∃ sa, sa = sF s1 (uq (yu y k), o) 6 oa := ⟨_, rfl⟩
      obtain ⟨ob, eob⟩ : ∃ ob, ob = (ups oa.1 9 (io (un (yu y k) + 1)), oa.2) := ⟨_, rfl⟩
      obtain ⟨sb, esb⟩ : ∃ sb, sb = sF sa (uq (yu y k), oa) 6 ob := ⟨_, rfl⟩
      have hcell := rise_cell (c6.fr f1) a6 hk kD1 eoa esa eob esb
      obtain ⟨ga, fa, za, ia⟩ := gF esa
      obtain ⟨gb, fb, zb, ib⟩ := gF esb
      have oa9 : oa.1 9 = io (un (yu y k)) := by
        rw [eoa]
        show (if 9 = 10 then io (yh y) else o.1 9) = _
        rw [if_neg (by decide)]; exact k9
      have fab : FY [] [] s1 sb := ⟨fun j _ => by show gI sb j = _; rw [ib.1, ia.1], fun j _ => by show gA sb j = _; rw [ib.2.1, ia.2.1], rfl, rfl, by show sz s1 ≤ sz sb; rw [zb, za]; exact Nat.le_refl _⟩
      have fs1 : FY EID EAD s s1 := f1.fy
      have e2 : gI s1 2 = io (yh y) := by rw [f1.gi 2 (by decide)]; exact c1
      have e2b : gI sb 2 = io (yh y) := by rw [ib.1, ia.1]; exact e2
      obtain ⟨s2, p1, p2, p3⟩ := P_add (F := F) (q := k) ((c5.fy fs1).fy fab) a4 r1
      have hnob : nob n (gho (yg y) (yh y / 8)) := (a2 (yh y / 8) (by omega)).2.2.1
      have hho := P_hold2g (F := F) (h := 0) (n := 0) (((c3.fy fs1).fy fab).fy p3.fy) (show yh y / 8 < 126 by omega)
      obtain ⟨s3, w1, w2, w3⟩ := P_wake (F := F) hF p2 (a4.new r1 hk a0) hn hnob
      have e22 : gI s2 2 = io (yh y) := by rw [p3.gi 2 (by decide)]; exact e2b
      have e23 : gI s3 2 = io (yh y) := by rw [w3.gi 2 (by decide)]; exact e22
      have f23 : Fr [1157, 1158] [19, 20, 21, 22] sb s3 := (p3.wide (by decide) (by decide)).trans (w3.wide (by decide) (by decide))
      have fall : FY EIp EAp s s3 := (FY.wide fs1 (by decide) (by decide)).trans ((FY.wide fab (by decide) (by decide)).trans (f23.wide (by decide) (by decide)).fy)
      obtain ⟨vs, T1⟩ := T1
      have T1b : TLw sb vs := TLw.fy T1 fab
      refine ⟨s3, ?_, ⟨e23, c2.fy fall, ((c3.fy fs1).fy fab).fy f23.fy, ((c4.fy fs1).fy fab).fy f23.fy, w2, hcell.fr f23, c7.fy fall, vs, T1b.fr f23⟩, fall⟩
      have dgs1 : dgo s1 (some (uq (yu y k))) 6 = some (uq (yu y k), o) := dgo_at kD1
      rw [f_P_comeHour_b57]
      simp (disch := omega) only [f_Rule_isDropped, Option.bind_some, Nat.reduceEqDiff, Nat.add_zero, Nat.zero_add, Nat.reduceLT, Nat.reduceLeDiff, Nat.reduceAdd, Nat.reduceSub, Nat.reduceMul, Nat.reduceDiv, Nat.lt_irrefl, Nat.not_lt_zero, Nat.zero_le, Nat.one_ne_zero, Nat.succ_ne_zero,  lt_def, i32_lit, reduceIte, P_isIn_eq, or_false, false_or, or_true, true_or, and_true, true_and, and_false, false_and, not_true, not_false_eq_true, eq_self, if_true, if_false, not_or, not_and, Nat.not_lt, Nat.not_le, e4, io_le, n1, hrt, hne, d1, k5', c1, k10, e1, io_eq, dgs1, e2, ← eoa, ← esa, dgo_at ga, oa9, io_add, ← eob, ← esb, e2b, p1, hho, e22, w1]
    · rw [if_neg (fun h => hc h.2)]
      rw [if_neg hc] at e1
      have fs1 : FY EID EAD s s1 := f1.fy
      refine ⟨s1, ?_, ⟨by rw [f1.gi 2 (by decide)]; exact c1, c2.fy fs1, c3.fy fs1, c4.fy fs1, c5.fy fs1, c6.fr f1, c7.fr f1, T1⟩, FY.wide fs1 (by decide) (by decide)⟩
      rw [f_P_comeHour_b57]
      simp (disch := omega) only [f_Rule_isDropped, Option.bind_some, Nat.reduceEqDiff, Nat.add_zero, Nat.zero_add, Nat.reduceLT, Nat.reduceLeDiff, Nat.reduceAdd, Nat.reduceSub, Nat.reduceMul, Nat.reduceDiv, Nat.lt_irrefl, Nat.not_lt_zero, Nat.zero_le, Nat.one_ne_zero, Nat.succ_ne_zero,  lt_def, i32_lit, reduceIte, P_isIn_eq, or_false, false_or, or_true, true_or, and_true, true_and, and_false, false_and, not_true, not_false_eq_true, eq_self, if_true, if_false, not_or, not_and, Nat.not_lt, Nat.not_le, e4, io_le, n1, hrt, hne, d1, k5', c1, k10, e1, io_eq, io_add]
  · rw [if_neg (fun h => hd h.1)]
    have k5' : o.1 5 = io (ud (yu y k) - 1) := by rw [k5]; exact dn_pos (by omega)
    refine ⟨s, ?_, ⟨c1, c2, c3, c4, c5, c6, c7, c8⟩, Fr.rf.fy⟩
    rw [f_P_comeHour_b57]
    simp (disch := omega) only [f_Rule_isDropped, Option.bind_some, Nat.reduceEqDiff, Nat.add_zero, Nat.zero_add, Nat.reduceLT, Nat.reduceLeDiff, Nat.reduceAdd, Nat.reduceSub, Nat.reduceMul, Nat.reduceDiv, Nat.lt_irrefl, Nat.not_lt_zero, Nat.zero_le, Nat.one_ne_zero, Nat.succ_ne_zero,  lt_def, i32_lit, reduceIte, P_isIn_eq, or_false, false_or, or_true, true_or, and_true, true_and, and_false, false_and, not_true, not_false_eq_true, eq_self, if_true, if_false, not_or, not_and, Nat.not_lt, Nat.not_le, e4, io_le, n1, hrt, hne, d1, k5', io_neg1, io_eq, io_add]
theorem CI.steps {F m n R : Nat} (hF : 5000 ≤ F) {L : Nat → LR} {y : GS} (hn : n ≤ 8) (G : GI L m n R y 0) : ∀ j k N s, k + j = R → j < N → CI L m n R s (grs L m y k) → ∃ s', f_P_comeHour_b57 F N s (io (yh y / 8)) (io k) = some s' ∧ CI L m n R s' (grs L m y R) ∧ FY EIp EAp s s' := by
  intro j
  induction j with
  | zero =>
    intro k N s hk hN C
    obtain ⟨N, rfl⟩ : ∃ N', N = N' + 1 := ⟨N - 1, by omega⟩
    have hk' : k = R := by omega
    subst hk'
    have e4 := C.2.2.2.2.2.1.1
    have hR := G.2.2.2.2.2.2.1.1
    refine ⟨s, ?_, C, Fr.rf.fy⟩
    rw [f_P_comeHour_b57]
    simp (disch := omega) only [Option.bind_some, Nat.reduceEqDiff, Nat.add_zero, Nat.zero_add, Nat.reduceLT, Nat.reduceLeDiff, Nat.reduceAdd, Nat.reduceSub, Nat.reduceMul, Nat.reduceDiv, Nat.lt_irrefl, Nat.not_lt_zero, Nat.zero_le, Nat.one_ne_zero, Nat.succ_ne_zero,  lt_def, i32_lit, reduceIte, P_isIn_eq, or_false, false_or, or_true, true_or, and_true, true_and, and_false, false_and, not_true, not_false_eq_true, eq_self, if_true, if_false, not_or, not_and, Nat.not_lt, Nat.not_le, e4, Int32.le_refl]
  | succ j ih =>
    intro k N s hk hN C
    obtain ⟨N, rfl⟩ : ∃ N', N = N' + 1 := ⟨N - 1, by omega⟩
    have eh := (gRs_h (L := L) (m := m) (y := y) k).1
    obtain ⟨s1, e1, C1, f1⟩ := C.step (F := F) (N := N) hF (G.steps hn k (by omega)) hn (by omega)
    rw [eh] at e1
    obtain ⟨s2, e2, C2, f2⟩ := ih (k + 1) N s1 (by omega) (by omega) C1
    exact ⟨s2, e1.trans e2, C2, f1.trans f2⟩
theorem CI.hour {F m n R : Nat} (hF : 5000 ≤ F) {L : Nat → LR} {s : St} {y : GS} (C : CI L m n R s y) (G : GF L m n R y) (hn : n ≤ 8) (h1 : yh y + 1 ≤ 1000) : ∃ s', f_P_comeHour F s = some s' ∧ CI L m n R s' (gH L m n R y) ∧ FY EIp EAp s s' := by
  have hR := G.2.2.2.2.2.1.1
  obtain ⟨s1, e1, C1, f1⟩ := C.begin (F := F) hF G hn h1
  obtain ⟨s2, e2, C2, f2⟩ := CI.steps (F := F) hF hn (G.begin hn h1) R 0 F s1 (by omega) (by omega) C1
  exact ⟨s2, e1.trans e2, C2, f1.trans f2⟩
theorem CI.hours {F Z m n R p c0 : Nat} (hF : 5000 ≤ F) {L : Nat → LR} {y : GS} (G : GF L m n R y) (hn : n ≤ 8) (hp : yh y + p ≤ 1000) (hc0 : c0 ≤ yc y) : ∀ j k N s, k + j = p → j < N → CI L m n R s (gP L m n R y k) → ∃ s', f_P_pass_b52 F Z N s (io p) (io c0) (io k) = some (.inl (io (yc (gP L m n R y p) - c0)), s') ∧ CI L m n R s' (gP L m n R y p) ∧ FY EIp EAp s s' := by
  intro j
  induction j with
  | zero =>
    intro k N s hk hN C
    obtain ⟨N, rfl⟩ : ∃ N', N = N' + 1 := ⟨N - 1, by omega⟩
    have hk' : k = p := by omega
    subst hk'
    have e57 : gI s 1157 = io (yc (gP L m n R y k)) := C.2.2.2.2.1.1
    have hcc := (gP_h (L := L) (m := m) (n := n) (R := R) (y := y) k).2.2
    refine ⟨s, ?_, C, Fr.rf.fy⟩
    rw [f_P_pass_b52]
    simp (disch := omega) only [Option.bind_some, Nat.reduceEqDiff, Nat.add_zero, Nat.zero_add, Nat.reduceLT, Nat.reduceLeDiff, Nat.reduceAdd, Nat.reduceSub, Nat.reduceMul, Nat.reduceDiv, Nat.lt_irrefl, Nat.not_lt_zero, Nat.zero_le, Nat.one_ne_zero, Nat.succ_ne_zero,  lt_def, i32_lit, reduceIte, P_isIn_eq, or_false, false_or, or_true, true_or, and_true, true_and, and_false, false_and, not_true, not_false_eq_true, eq_self, if_true, if_false, not_or, not_and, Nat.not_lt, Nat.not_le, Int32.le_refl, e57, io_sub]
  | succ j ih =>
    intro k N s hk hN C
    obtain ⟨N, rfl⟩ : ∃ N', N = N' + 1 := ⟨N - 1, by omega⟩
    have eh := (gP_h (L := L) (m := m) (n := n) (R := R) (y := y) k).1
    obtain ⟨s1, e1, C1, f1⟩ := C.hour (F := F) hF (G.hours hn k (by omega)) hn (by omega)
    obtain ⟨s2, e2, C2, f2⟩ := ih (k + 1) N s1 (by omega) (by omega) C1
    have q1 : ¬ p ≤ k := by omega
    refine ⟨s2, ?_, C2, f1.trans f2⟩
    rw [f_P_pass_b52]
    simp (disch := omega) only [Option.bind_some, Nat.reduceEqDiff, Nat.add_zero, Nat.zero_add, Nat.reduceLT, Nat.reduceLeDiff, Nat.reduceAdd, Nat.reduceSub, Nat.reduceMul, Nat.reduceDiv, Nat.lt_irrefl, Nat.not_lt_zero, Nat.zero_le, Nat.one_ne_zero, Nat.succ_ne_zero,  lt_def, i32_lit, reduceIte, P_isIn_eq, or_false, false_or, or_true, true_or, and_true, true_and, and_false, false_and, not_true, not_false_eq_true, eq_self, if_true, if_false, not_or, not_and, Nat.not_lt, Nat.not_le, io_le, q1, e1, io_add, e2]

theorem cnt_mono {p : Nat → Bool} {c c' : Nat} (h : c ≤ c') : cnt p c ≤ cnt p c' := by
  induction c' with
  | zero => rw [show c = 0 by omega]; exact Nat.le_refl _
  | succ k ih =>
    by_cases e : c = k + 1
    · rw [e]; exact Nat.le_refl _
    · exact Nat.le_trans (ih (by omega)) (Nat.le_add_right _ _)
/-! what always holds -/
theorem an1_fr {eI eA : List Nat} {s s' : St} (f : Fr eI eA s s') (d : 23 ∉ eA := by decide) : an1 s' = an1 s := by
  funext j
  unfold an1
  rw [f.ga 23 d]
theorem RG1.pp {x : RU} {h n n' : Nat} (G : RG1 h n x) (hn : n ≤ n') : RG1 h n' x := by
  obtain ⟨g1, g2, g3, g4, g5, g6, g7, g8, g9, g10, g11, g12, g13⟩ := G
  exact ⟨g1, g2, by omega, g4, g5, g6, g7, g8, g9, g10, g11, g12, g13⟩
theorem RUg.pp {u : Nat → RU} {R h n n' : Nat} (G : RUg u R h n) (hn : n ≤ n') : RUg u R h n' := ⟨G.1, fun r hr => (G.2.1 r hr).pp hn, G.2.2⟩
/-! a late log changes no past hour -/
theorem lins_ev {L : Nat → LR} {x : Nat} {r : LR} {P : LR → Bool} (hP : P r = false) : ∀ d, ((List.range (x + d + 1)).filter (fun k => P (lins L x r k))).map (fun k => rec1 (lins L x r k)) = ((List.range (x + d)).filter (fun k => P (L k))).map (fun k => rec1 (L k)) := by
  intro d
  induction d with
  | zero =>
    have hx : lins L x r x = r := by unfold lins; rw [if_neg (by omega), if_pos rfl]
    have hk : ∀ k, k < x → lins L x r k = L k := fun k hk => by unfold lins; rw [if_pos hk]
    rw [Nat.add_zero, List.range_succ, List.filter_append, List.map_append]
    have e : List.filter (fun k => P (lins L x r k)) [x] = [] := by
      rw [List.filter_cons_of_neg (by rw [hx, hP]; simp)]; rfl
    rw [e, List.map_nil, List.append_nil]
    have e2 : List.filter (fun k => P (lins L x r k)) (List.range x) = List.filter (fun k => P (L k)) (List.range x) := List.filter_congr (fun k hk2 => by rw [hk k (List.mem_range.mp hk2)])
    rw [e2]
    exact List.map_congr_left (fun k hk2 => by rw [hk k (List.mem_range.mp (List.mem_filter.mp hk2).1)])
  | succ d ih =>
    have hx : lins L x r (x + d + 1) = L (x + d) := by
      unfold lins; rw [if_neg (by omega), if_neg (by omega)]; rfl
    have e1 : x + (d + 1) = x + d + 1 := by omega
    rw [e1, List.range_succ (n := x + d + 1), List.filter_append, List.map_append, ih, List.range_succ (n := x + d), List.filter_append, List.map_append]
    congr 1
    by_cases hq : P (L (x + d)) = true
    · rw [List.filter_cons_of_pos (by rw [hx]; exact hq), List.filter_cons_of_pos (p := fun k => P (L k)) (a := x + d) hq]
      show [rec1 (lins L x r (x + d + 1))] = [rec1 (L (x + d))]
      rw [hx]
    · rw [List.filter_cons_of_neg (by rw [hx]; exact hq), List.filter_cons_of_neg (p := fun k => P (L k)) (a := x + d) hq]; rfl
theorem ev_late {L : Nat → LR} {x m h a b t : Nat} {r : LR} (hx : x ≤ m) (hr : rT r = h) (ht : t < h) : ev (lins L x r) (pks (lins L x r) (m + 1) a b t) = ev L (pks L m a b t) := by
  obtain ⟨d, rfl⟩ : ∃ d, m = x + d := ⟨m - x, by omega⟩
  exact lins_ev (L := L) (x := x) (r := r) (P := fun q => decide (a ≤ rH q ∧ rH q ≤ b ∧ rT q ≤ t)) (decide_eq_false (by omega)) d
theorem rcn_late {L : Nat → LR} {x m h : Nat} {r : LR} {y : RU} (hx : x ≤ m) (hr : rT r = h) : ∀ k, um y + k ≤ h → rcn (lins L x r) (m + 1) y k = rcn L m y k := by
  intro k
  induction k with
  | zero => intro _; rfl
  | succ k ih =>
    intro hk
    have hd : ∀ l, dueB (lins L x r) (m + 1) y (um y + k + 1) l = dueB L m y (um y + k + 1) l := fun l => by
      unfold dueB
      rw [ev_late hx hr (show um y + k + 1 - 1 < h by omega)]
    unfold rcn
    rw [ih (by omega), hd]
theorem HS.late {L : Nat → LR} {x m h n R : Nat} {r : LR} {u : Nat → RU} (H : HS L m u R h) (G : RUg u R h n) (hx : x ≤ m) (hr : rT r = h) : HS (lins L x r) (m + 1) u R h := fun q hq => by
  obtain ⟨g1, g2, g3, g4, g5, g6, g7, g8, g9, g10, g11, g12, g13⟩ := G.2.1 q hq
  rw [rcn_late hx hr _ ?_]
  · exact H q hq
  · unfold uend
    by_cases e : ud (u q) = 0
    · rw [if_pos e]; omega
    · rw [if_neg e]; omega
