/-! rules: their ghosts -/
/-- cell, question, owner, window, rest, made in, 1 more than the hour in which it was dropped, silences, how many alarms, 1 more than the hour of the last one -/
abbrev RU : Type := Nat × List QT × Nat × Nat × Nat × Nat × Nat × List (Nat × Nat) × Nat × Nat
def uq (x : RU) : Nat := x.1
def uc (x : RU) : List QT := x.2.1
def uo (x : RU) : Nat := x.2.2.1
def uw (x : RU) : Nat := x.2.2.2.1
def ur (x : RU) : Nat := x.2.2.2.2.1
def um (x : RU) : Nat := x.2.2.2.2.2.1
def ud (x : RU) : Nat := x.2.2.2.2.2.2.1
def us (x : RU) : List (Nat × Nat) := x.2.2.2.2.2.2.2.1
def un (x : RU) : Nat := x.2.2.2.2.2.2.2.2.1
def ul (x : RU) : Nat := x.2.2.2.2.2.2.2.2.2
def DE (s s' : St) : Prop := sz s ≤ sz s' ∧ ∀ q, q < sz s → gD s' q = gD s q
theorem DE.rf {s : St} : DE s s := ⟨Nat.le_refl _, fun _ _ => rfl⟩
theorem DE.trans {s s1 s2 : St} (h : DE s s1) (h2 : DE s1 s2) : DE s s2 := ⟨Nat.le_trans h.1 h2.1, fun q hq => (h2.2 q (Nat.lt_of_lt_of_le hq h.1)).trans (h.2 q hq)⟩
theorem DE.nm {s s' : St} (h : DE s s') : NM s s' := ⟨h.1, fun q o hq hd => by rw [h.2 q hq]; exact hd⟩
theorem Fr.de {eI eA : List Nat} {s s' : St} (f : Fr eI eA s s') : DE s s' := ⟨f.2.2.2.2, fun q _ => by rw [f.2.2.2.1]⟩
theorem Fw.de {s s' : St} (f : Fw s s') : DE s s' := ⟨f.2.2.2.2.2.1, f.2.2.2.2.2.2⟩
/-- a rule in the heap -/
def RC1 (s : St) (x : RU) : Prop := uq x + 2 < sz s ∧ ∃ o g6 g7 nq, gD s (uq x) = some (.inl (6, o)) ∧ gD s (uq x + 1) = some (.inr (.inl (1, 5, g6))) ∧ gD s (uq x + 2) = some (.inr (.inl (1, 5, g7))) ∧
  o.1 1 = io (uo x) ∧ o.1 2 = io (uw x) ∧ o.1 3 = io (ur x) ∧ o.1 4 = io (um x) ∧ o.1 5 = dn (ud x) ∧ o.1 8 = io (us x).length ∧ o.1 9 = io (un x) ∧ o.1 10 = dn (ul x) ∧ o.2.1 0 = some nq ∧ o.2.1 6 = some (uq x + 1) ∧ o.2.1 7 = some (uq x + 2) ∧ TQ s 40 nq (uc x) ∧ ∀ i (h : i < (us x).length), g6 i = io (us x)[i].1 ∧ g7 i = io (us x)[i].2
def RUc (s : St) (u : Nat → RU) (R : Nat) : Prop := gI s 4 = io R ∧ ∀ r, r < R → gQ s 2 r = some (uq (u r)) ∧ RC1 s (u r)
def RM1 (s : St) (r : Nat) (x : RU) : Prop := gA s 59 r = io (uo x) ∧ gA s 60 r = io (uw x) ∧ gA s 61 r = io (ur x) ∧ gA s 62 r = io (if ud x = 0 then 0 else 1) ∧ gA s 64 r = io (un x) ∧ (ul x ≠ 0 → gA s 63 r = io (ul x - 1)) ∧ gA s 65 r = io (us x).length ∧ (∀ i (h : i < (us x).length), gA s 66 (5 * r + i) = io (us x)[i].1 ∧ gA s 67 (5 * r + i) = io (us x)[i].2) ∧ PG s r (uc x)
def RUm (s : St) (u : Nat → RU) (R : Nat) : Prop := gI s 2536 = io R ∧ (∀ r, r < R → RM1 s r (u r)) ∧ ∀ r, R ≤ r → r < 4 → gA s 62 r = io 0 ∧ gA s 64 r = io 0 ∧ gA s 65 r = io 0
def RG1 (h n : Nat) (x : RU) : Prop := okQ (uc x) ∧ (uc x).length ≤ 40 ∧ uo x < n ∧ 1 ≤ uw x ∧ uw x ≤ 72 ∧ ur x ≤ 72 ∧ um x ≤ h ∧ (ud x = 0 ∨ (um x < ud x ∧ ud x ≤ h + 1)) ∧ (us x).length ≤ 5 ∧ (∀ e ∈ us x, e.1 ≤ e.2 ∧ e.2 ≤ 1000) ∧ (un x = 0 ↔ ul x = 0) ∧ ul x ≤ h + 1 ∧ un x ≤ h
def RUg (u : Nat → RU) (R h n : Nat) : Prop := R ≤ 4 ∧ (∀ r, r < R → RG1 h n (u r)) ∧ ∀ r r', r < r' → r' < R → uq (u r) + 3 ≤ uq (u r')
def silB (l : List (Nat × Nat)) (th : Nat) : Bool := l.any (fun e => decide (e.1 ≤ th ∧ th ≤ e.2))
def dueB (L : Nat → LR) (m : Nat) (x : RU) (th l : Nat) : Bool := decide (l = 0 ∨ ur x + (l - 1) < th) && (!silB (us x) th && decide (valQ (ev L (pks L m (th + 1 - uw x) th (th - 1))) (uc x) ≠ 0))
def rcn (L : Nat → LR) (m : Nat) (x : RU) : Nat → Nat × Nat
  | 0 => (0, 0)
  | k + 1 => if dueB L m x (um x + k + 1) (rcn L m x k).2 = true then ((rcn L m x k).1 + 1, um x + k + 2) else rcn L m x k
def uend (x : RU) (h : Nat) : Nat := if ud x = 0 then h else ud x - 1
def HS (L : Nat → LR) (m : Nat) (u : Nat → RU) (R h : Nat) : Prop := ∀ r, r < R → rcn L m (u r) (uend (u r) h - um (u r)) = (un (u r), ul (u r))
def csum (u : Nat → RU) : Nat → Nat
  | 0 => 0
  | r + 1 => csum u r + un (u r)
theorem RC1.de {s s' : St} {x : RU} (H : RC1 s x) (f : DE s s') : RC1 s' x := by
  obtain ⟨h1, o, g6, g7, nq, h2, h3, h4, h5, h6, h7, h8, h9, h10, h11, h12, h13, h14, h15, h16, h17⟩ := H
  exact ⟨Nat.lt_of_lt_of_le h1 f.1, o, g6, g7, nq, by rw [f.2 _ (by omega)]; exact h2, by rw [f.2 _ (by omega)]; exact h3, by rw [f.2 _ h1]; exact h4, h5, h6, h7, h8, h9, h10, h11, h12, h13, h14, h15, TQ.nm f.nm _ _ _ h16, h17⟩
theorem RUc.de {s s' : St} {u : Nat → RU} {R : Nat} (H : RUc s u R) (f : DE s s') (h1 : gI s' 4 = gI s 4) (h2 : gQ s' = gQ s) : RUc s' u R := ⟨h1.trans H.1, fun r hr => ⟨by rw [h2]; exact (H.2 r hr).1, (H.2 r hr).2.de f⟩⟩
theorem RUc.fr {eI eA : List Nat} {s s' : St} {u : Nat → RU} {R : Nat} (H : RUc s u R) (f : Fr eI eA s s') (d : 4 ∉ eI := by decide) : RUc s' u R := H.de f.de (f.gi 4 d) f.2.2.1
theorem PG.eq {s s' : St} {p : Nat} {c : List QT} (H : PG s p c) (h1 : ∀ k, (k = 41 ∨ k = 42 ∨ k = 44 ∨ k = 45) → ∀ i, i < 64 → gA s' k (64 * p + i) = gA s k (64 * p + i)) (h2 : gA s' 43 p = gA s 43 p) (hc : c.length ≤ 64) : PG s' p c := by
  obtain ⟨e, a, p1, p2, p3, p4, p5⟩ := H
  have hl := p5.len
  exact ⟨e, a, h2.trans p1, fun i hi => by rw [h1 41 (by omega) i (by omega), h1 42 (by omega) i (by omega)]; exact p2 i hi, fun i hi => by rw [h1 44 (by omega) i (by omega), h1 45 (by omega) i (by omega)]; exact p3 i hi, p4, p5⟩
theorem RM1.fr {eI eA : List Nat} {s s' : St} {r : Nat} {x : RU} (H : RM1 s r x) (f : Fr eI eA s s') (d : ∀ k ∈ [59, 60, 61, 62, 63, 64, 65, 66, 67, 41, 42, 43, 44, 45], k ∉ eA := by decide) : RM1 s' r x := by
  unfold RM1 PG row at *
  rw [f.ga 59 (d 59 (by decide)), f.ga 60 (d 60 (by decide)), f.ga 61 (d 61 (by decide)), f.ga 62 (d 62 (by decide)), f.ga 63 (d 63 (by decide)), f.ga 64 (d 64 (by decide)), f.ga 65 (d 65 (by decide)), f.ga 66 (d 66 (by decide)), f.ga 67 (d 67 (by decide)), f.ga 41 (d 41 (by decide)), f.ga 42 (d 42 (by decide)), f.ga 43 (d 43 (by decide)), f.ga 44 (d 44 (by decide)), f.ga 45 (d 45 (by decide))]
  exact H
theorem RUm.fr {eI eA : List Nat} {s s' : St} {u : Nat → RU} {R : Nat} (H : RUm s u R) (f : Fr eI eA s s') (d1 : 2536 ∉ eI := by decide) (d : ∀ k ∈ [59, 60, 61, 62, 63, 64, 65, 66, 67, 41, 42, 43, 44, 45], k ∉ eA := by decide) : RUm s' u R :=
  ⟨by rw [f.gi 2536 d1]; exact H.1, fun r hr => (H.2.1 r hr).fr f d, fun r h1 h2 => by rw [f.ga 62 (d 62 (by decide)), f.ga 64 (d 64 (by decide)), f.ga 65 (d 65 (by decide))]; exact H.2.2 r h1 h2⟩
theorem TLw.fr {eI eA : List Nat} {s s' : St} {vs : List Int32} (H : TLw s vs) (f : Fr eI eA s s') (d1 : 1985 ∉ eI := by decide) (d2 : 32 ∉ eA := by decide) (d3 : 33 ∉ eA := by decide) : TLw s' vs := by
  unfold TLw at *
  rw [f.gi 1985 d1, f.ga 32 d2, f.ga 33 d3]
  exact H
theorem TLr.fr {eI eA : List Nat} {s s' : St} {vs : List Int32} (H : TLr s vs) (f : Fr eI eA s s') (d1 : 2241 ∉ eI := by decide) (d2 : 36 ∉ eA := by decide) (d3 : 37 ∉ eA := by decide) : TLr s' vs := by
  unfold TLr at *
  rw [f.gi 2241 d1, f.ga 36 d2, f.ga 37 d3]
  exact H
/-! which rule is meant -/
theorem ruleAt_t {F R r : Nat} {s : St} {u : Nat → RU} (H : RUc s u R) (hR : R ≤ 4) (hr : r < R) : f_P_ruleAt F s (io r) = some (some (uq (u r)), s) := by
  have h1 := H.1
  have h2 := (H.2 r hr).1
  have n0 : ¬ r < 0 := by omega
  have n1 : ¬ R ≤ r := by omega
  have n2 : ¬ 4 ≤ r := by omega
  simp (disch := omega) only [f_P_ruleAt, Option.bind_some, Nat.reduceEqDiff, Nat.add_zero, Nat.zero_add, Nat.reduceLT, Nat.reduceLeDiff, Nat.reduceAdd, Nat.reduceSub, Nat.reduceMul, Nat.reduceDiv, Nat.lt_irrefl, Nat.not_lt_zero, Nat.zero_le, Nat.one_ne_zero, Nat.succ_ne_zero,  lt_def, i32_lit, reduceIte, P_isIn_eq, M_isIn_eq, M_goes_eq, or_false, false_or, or_true, true_or, and_true, true_and, and_false, false_and, not_true, not_false_eq_true, eq_self, if_true, if_false, not_or, not_and, Nat.not_lt, Nat.not_le, io_lt, n0, h1, io_le, n1, n2, ix_io, h2]
theorem ruleAt_f {F R : Nat} {s : St} {u : Nat → RU} {x : Int32} (H : RUc s u R) (hR : R ≤ 4) (hx : ¬ ∃ r, r < R ∧ x = io r) : f_P_ruleAt F s x = some (none, s) := by
  have h1 := H.1
  by_cases h0 : x < io 0
  · simp (disch := omega) only [f_P_ruleAt, Option.bind_some, Nat.reduceEqDiff, Nat.add_zero, Nat.zero_add, Nat.reduceLT, Nat.reduceLeDiff, Nat.reduceAdd, Nat.reduceSub, Nat.reduceMul, Nat.reduceDiv, Nat.lt_irrefl, Nat.not_lt_zero, Nat.zero_le, Nat.one_ne_zero, Nat.succ_ne_zero,  lt_def, i32_lit, reduceIte, P_isIn_eq, M_isIn_eq, M_goes_eq, or_false, false_or, or_true, true_or, and_true, true_and, and_false, false_and, not_true, not_false_eq_true, eq_self, if_true, if_false, not_or, not_and, Nat.not_lt, Nat.not_le, h0]
  · rw [i32_nlt] at h0
    obtain ⟨e, hl⟩ := io_of h0
    have h2 : R ≤ x.toNatClampNeg := Classical.byContradiction fun hn => hx ⟨_, by omega, e⟩
    have n0 : ¬ x.toNatClampNeg < 0 := by omega
    rw [e]
    simp (disch := omega) only [f_P_ruleAt, Option.bind_some, Nat.reduceEqDiff, Nat.add_zero, Nat.zero_add, Nat.reduceLT, Nat.reduceLeDiff, Nat.reduceAdd, Nat.reduceSub, Nat.reduceMul, Nat.reduceDiv, Nat.lt_irrefl, Nat.not_lt_zero, Nat.zero_le, Nat.one_ne_zero, Nat.succ_ne_zero,  lt_def, i32_lit, reduceIte, P_isIn_eq, M_isIn_eq, M_goes_eq, or_false, false_or, or_true, true_or, and_true, true_and, and_false, false_and, not_true, not_false_eq_true, eq_self, if_true, if_false, not_or, not_and, Nat.not_lt, Nat.not_le, io_lt, n0, h1, io_le, h2]
theorem isRule_t {F R r : Nat} {s : St} (h1 : gI s 2536 = io R) (hR : R ≤ 4) (hr : r < R) : f_M_isRule F s (io r) = some (io 1, s) := by
  have n1 : ¬ R - 1 < r := by omega
  have n0 : ¬ r < 0 := by omega
  simp (disch := omega) only [f_M_isRule, Option.bind_some, Nat.reduceEqDiff, Nat.add_zero, Nat.zero_add, Nat.reduceLT, Nat.reduceLeDiff, Nat.reduceAdd, Nat.reduceSub, Nat.reduceMul, Nat.reduceDiv, Nat.lt_irrefl, Nat.not_lt_zero, Nat.zero_le, Nat.one_ne_zero, Nat.succ_ne_zero,  lt_def, i32_lit, reduceIte, P_isIn_eq, M_isIn_eq, M_goes_eq, or_false, false_or, or_true, true_or, and_true, true_and, and_false, false_and, not_true, not_false_eq_true, eq_self, if_true, if_false, not_or, not_and, Nat.not_lt, Nat.not_le, h1, io_sub, io_lt, n0, n1, io_eq]
theorem isRule_f {F R : Nat} {s : St} {x : Int32} (h1 : gI s 2536 = io R) (hR : R ≤ 4) (hx : ¬ ∃ r, r < R ∧ x = io r) : f_M_isRule F s x = some (io 0, s) := by
  by_cases h0 : x < io 0
  · simp (disch := omega) only [f_M_isRule, Option.bind_some, Nat.reduceEqDiff, Nat.add_zero, Nat.zero_add, Nat.reduceLT, Nat.reduceLeDiff, Nat.reduceAdd, Nat.reduceSub, Nat.reduceMul, Nat.reduceDiv, Nat.lt_irrefl, Nat.not_lt_zero, Nat.zero_le, Nat.one_ne_zero, Nat.succ_ne_zero,  lt_def, i32_lit, reduceIte, P_isIn_eq, M_isIn_eq, M_goes_eq, or_false, false_or, or_true, true_or, and_true, true_and, and_false, false_and, not_true, not_false_eq_true, eq_self, if_true, if_false, not_or, not_and, Nat.not_lt, Nat.not_le, h0, io_eq]
  · rw [i32_nlt] at h0
    obtain ⟨e, hl⟩ := io_of h0
    have h2 : R ≤ x.toNatClampNeg := Classical.byContradiction fun hn => hx ⟨_, by omega, e⟩
    rw [e]
    rcases Nat.eq_zero_or_pos R with rfl | hR0
    · have h3 : io 0 - io 1 = -io 1 := by decide
      simp (disch := omega) only [f_M_isRule, Option.bind_some, Nat.reduceEqDiff, Nat.add_zero, Nat.zero_add, Nat.reduceLT, Nat.reduceLeDiff, Nat.reduceAdd, Nat.reduceSub, Nat.reduceMul, Nat.reduceDiv, Nat.lt_irrefl, Nat.not_lt_zero, Nat.zero_le, Nat.one_ne_zero, Nat.succ_ne_zero,  lt_def, i32_lit, reduceIte, P_isIn_eq, M_isIn_eq, M_goes_eq, or_false, false_or, or_true, true_or, and_true, true_and, and_false, false_and, not_true, not_false_eq_true, eq_self, if_true, if_false, not_or, not_and, Nat.not_lt, Nat.not_le, h1, h3, neg1_lt, io_eq]
    · have h3 : R - 1 < x.toNatClampNeg := by omega
      simp (disch := omega) only [f_M_isRule, Option.bind_some, Nat.reduceEqDiff, Nat.add_zero, Nat.zero_add, Nat.reduceLT, Nat.reduceLeDiff, Nat.reduceAdd, Nat.reduceSub, Nat.reduceMul, Nat.reduceDiv, Nat.lt_irrefl, Nat.not_lt_zero, Nat.zero_le, Nat.one_ne_zero, Nat.succ_ne_zero,  lt_def, i32_lit, reduceIte, P_isIn_eq, M_isIn_eq, M_goes_eq, or_false, false_or, or_true, true_or, and_true, true_and, and_false, false_and, not_true, not_false_eq_true, eq_self, if_true, if_false, not_or, not_and, Nat.not_lt, Nat.not_le, h1, io_sub, io_lt, h3, io_eq]
/-- what a rule's cell shows -/
theorem RC1.dg {s : St} {x : RU} (H : RC1 s x) : ∃ o nq, dgo s (some (uq x)) 6 = some (uq x, o) ∧ o.1 1 = io (uo x) ∧ o.1 2 = io (uw x) ∧ o.1 3 = io (ur x) ∧ o.1 4 = io (um x) ∧ o.1 5 = dn (ud x) ∧ o.1 8 = io (us x).length ∧ o.1 9 = io (un x) ∧ o.1 10 = dn (ul x) ∧ o.2.1 0 = some nq ∧ o.2.1 6 = some (uq x + 1) ∧ o.2.1 7 = some (uq x + 2) ∧ TQ s 40 nq (uc x) ∧ gD s (uq x) = some (.inl (6, o)) := by
  obtain ⟨h1, o, g6, g7, nq, h2, h3, h4, h5, h6, h7, h8, h9, h10, h11, h12, h13, h14, h15, h16, h17⟩ := H
  exact ⟨o, nq, dgo_at h2, h5, h6, h7, h8, h9, h10, h11, h12, h13, h14, h15, h16, h2⟩
theorem op_rises {F R : Nat} {s : St} {u : Nat → RU} (C : RUc s u R) (M : RUm s u R) (hR : R ≤ 4) (x : Int32) : ∃ k s1, f_L_rises F s x = some (k, s1) ∧ ∀ N, sz s1 ≤ N → ∃ b s2, f_M_rises F (sz' s1 N) x = some (b, s2) ∧ gI s2 2551 = k ∧ (k = 0 → gJ s2 70 0 = b.toInt64) ∧ Fr [2551] [] s s2 := by
  have hz := szlt s
  by_cases hx : ∃ r, r < R ∧ x = io r
  · obtain ⟨r, hr, rfl⟩ := hx
    obtain ⟨o, nq, d1, -, -, -, -, -, -, d2, -⟩ := (C.2 r hr).2.dg
    have hne : ¬ some (uq (u r)) = none := by simp
    refine ⟨io 0, sJ s 70 0 (io (un (u r))).toInt64, ?_, fun N hN => ?_⟩
    · simp (disch := omega) only [f_L_rises, f_P_rises, Option.bind_some, Nat.reduceEqDiff, Nat.add_zero, Nat.zero_add, Nat.reduceLT, Nat.reduceLeDiff, Nat.reduceAdd, Nat.reduceSub, Nat.reduceMul, Nat.reduceDiv, Nat.lt_irrefl, Nat.not_lt_zero, Nat.zero_le, Nat.one_ne_zero, Nat.succ_ne_zero,  lt_def, i32_lit, reduceIte, P_isIn_eq, M_isIn_eq, M_goes_eq, or_false, false_or, or_true, true_or, and_true, true_and, and_false, false_and, not_true, not_false_eq_true, eq_self, if_true, if_false, not_or, not_and, Nat.not_lt, Nat.not_le, ruleAt_t C hR hr, hne, d1, d2]
    · have f : Fr [2551] [] s (sI (sz' (sJ s 70 0 (io (un (u r))).toInt64) N) 2551 (io 0)) := ((Fr.rf.J).Z hN).I (by decide)
      refine ⟨io (un (u r)), sI (sz' (sJ s 70 0 (io (un (u r))).toInt64) N) 2551 (io 0), ?_, rfl, fun _ => rfl, f⟩
      have e64 : gA s 64 r = io (un (u r)) := (M.2.1 r hr).2.2.2.2.1
      have hir := isRule_t (F := F) (s := sz' (sJ s 70 0 (io (un (u r))).toInt64) N) M.1 hR hr
      simp (disch := omega) only [f_M_rises, Option.bind_some, Nat.reduceEqDiff, Nat.add_zero, Nat.zero_add, Nat.reduceLT, Nat.reduceLeDiff, Nat.reduceAdd, Nat.reduceSub, Nat.reduceMul, Nat.reduceDiv, Nat.lt_irrefl, Nat.not_lt_zero, Nat.zero_le, Nat.one_ne_zero, Nat.succ_ne_zero,  lt_def, i32_lit, reduceIte, P_isIn_eq, M_isIn_eq, M_goes_eq, or_false, false_or, or_true, true_or, and_true, true_and, and_false, false_and, not_true, not_false_eq_true, eq_self, if_true, if_false, not_or, not_and, Nat.not_lt, Nat.not_le, hir, io_eq, ix_io, gI_sI, gI_sA, gI_sL, gI_sJ, gI_sR, gI_sQ, gI_sD, gI_sN, gI_sz, gA_sI, gA_sA, gA_sL, gA_sJ, gA_sR, gA_sQ, gA_sD, gA_sN, gA_sz, gL_sI, gL_sA, gL_sL, gL_sJ, gL_sR, gL_sQ, gL_sD, gL_sN, gL_sz, gJ_sI, gJ_sA, gJ_sL, gJ_sJ, gJ_sR, gJ_sQ, gJ_sD, gJ_sN, gJ_sz, gR_sI, gR_sA, gR_sL, gR_sJ, gR_sR, gR_sQ, gR_sD, gR_sN, gR_sz, gQ_sI, gQ_sA, gQ_sL, gQ_sJ, gQ_sR, gQ_sQ, gQ_sD, gQ_sN, gQ_sz, gD_sI, gD_sA, gD_sL, gD_sJ, gD_sR, gD_sQ, gD_sD, gD_sN, gD_sz, sz_sI, sz_sA, sz_sL, sz_sJ, sz_sR, sz_sQ, sz_sD, sz_sN, sz_sz, e64]
  · refine ⟨io 1, s, ?_, fun N hN => ⟨io 0, sI (sz' s N) 2551 (io 1), ?_, rfl, fun h => absurd h (by decide), (Fr.rf.Z hN).I (by decide)⟩⟩
    · simp (disch := omega) only [f_L_rises, f_P_rises, Option.bind_some, Nat.reduceEqDiff, Nat.add_zero, Nat.zero_add, Nat.reduceLT, Nat.reduceLeDiff, Nat.reduceAdd, Nat.reduceSub, Nat.reduceMul, Nat.reduceDiv, Nat.lt_irrefl, Nat.not_lt_zero, Nat.zero_le, Nat.one_ne_zero, Nat.succ_ne_zero,  lt_def, i32_lit, reduceIte, P_isIn_eq, M_isIn_eq, M_goes_eq, or_false, false_or, or_true, true_or, and_true, true_and, and_false, false_and, not_true, not_false_eq_true, eq_self, if_true, if_false, not_or, not_and, Nat.not_lt, Nat.not_le, ruleAt_f C hR hx, hz]
    · have hir := isRule_f (F := F) (s := sz' s N) M.1 hR hx
      simp (disch := omega) only [f_M_rises, Option.bind_some, Nat.reduceEqDiff, Nat.add_zero, Nat.zero_add, Nat.reduceLT, Nat.reduceLeDiff, Nat.reduceAdd, Nat.reduceSub, Nat.reduceMul, Nat.reduceDiv, Nat.lt_irrefl, Nat.not_lt_zero, Nat.zero_le, Nat.one_ne_zero, Nat.succ_ne_zero,  lt_def, i32_lit, reduceIte, P_isIn_eq, M_isIn_eq, M_goes_eq, or_false, false_or, or_true, true_or, and_true, true_and, and_false, false_and, not_true, not_false_eq_true, eq_self, if_true, if_false, not_or, not_and, Nat.not_lt, Nat.not_le, hir, io_eq]
