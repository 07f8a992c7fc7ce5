/-! the class as a world: its time, rota, debts, alarms, rules (y), its logs (L, m), its people (n), its rules' number (R), its text (t, k) -/
abbrev WD : Type := GS × (Nat → LR) × Nat × Nat × Nat × (Nat → Nat) × Nat
def vy (w : WD) : GS := w.1
def vL (w : WD) : Nat → LR := w.2.1
def vm (w : WD) : Nat := w.2.2.1
def vn (w : WD) : Nat := w.2.2.2.1
def vR (w : WD) : Nat := w.2.2.2.2.1
def vt (w : WD) : Nat → Nat := w.2.2.2.2.2.1
def vk (w : WD) : Nat := w.2.2.2.2.2.2
def CV (s : St) (w : WD) : Prop := CI (vL w) (vm w) (vn w) (vR w) s (vy w) ∧ GF (vL w) (vm w) (vn w) (vR w) (vy w) ∧ vn w ≤ 8 ∧ TXT (vt w) (vk w) ∧ CX2 (vt w) (vk w) s ∧ gI s 1 = io (vk w) ∧ ∃ vs, TLr s vs
/-- a call that throws: one cell more -/
abbrev xz {α : Type} (Z : Nat) (s : St) (k : Nat) : Option ((α ⊕ Nat) × St) := if sz s < Z then some (.inr k, sz' s (sz s + 1)) else none
/-- the law's own arrays stay -/
def KA (s s' : St) : Prop := ∀ k, 39 ≤ k → gA s' k = gA s k
theorem KA.rf {s : St} : KA s s := fun _ _ => rfl
theorem KA.trans {s s1 s2 : St} (h : KA s s1) (h2 : KA s1 s2) : KA s s2 := fun k hk => (h2 k hk).trans (h k hk)
theorem KA.fx {eI eA : List Nat} {s s' : St} (f : FX eI eA s s') (d : ∀ k ∈ eA, k < 39 := by decide) : KA s s' := fun k hk => f.2.1 k (fun h => by have := d k h; omega)
theorem KA.fy {eI eA : List Nat} {s s' : St} (f : FY eI eA s s') (d : ∀ k ∈ eA, k < 39 := by decide) : KA s s' := fun k hk => f.2.1 k (fun h => by have := d k h; omega)
/-- the world w, the law's arrays kept, at most c cells more -/
def ON (s : St) (c : Nat) (s' : St) (w : WD) : Prop := CV s' w ∧ KA s s' ∧ sz s ≤ sz s' ∧ sz s' ≤ sz s + c
theorem CV.fx {eI eA : List Nat} {s s' : St} {w : WD} (H : CV s w) (f : FX eI eA s s') (hw : ∃ vs, TLw s' vs) (hr : ∃ vs, TLr s' vs)
    (dI : ∀ k ∈ [1, 2, 4, 200, 768, 774, 1157, 1158], k ∉ eI := by decide) (dA : ∀ k ∈ [1, 4, 5, 6, 7, 8, 9, 10, 13, 14, 15, 16, 17, 19, 20, 21, 22, 23], k ∉ eA := by decide) : CV s' w := by
  obtain ⟨⟨c1, c2, c3, c4, c5, c6, c7, c8⟩, g, hn, t1, t2, t3, t4⟩ := H
  have fy := f.swD
  refine ⟨⟨(f.1 2 (dI 2 (by decide))).trans c1, c2.fy fy (dI 768 (by decide)), c3.fy fy (dA 13 (by decide)) (dA 14 (by decide)) (dA 15 (by decide)), c4.fy fy (dI 774 (by decide)) (dA 16 (by decide)) (dA 17 (by decide)), c5.fy fy (dI 1157 (by decide)) (dI 1158 (by decide)) (fun k hk => dA k (by revert k; decide)), c6.fx f (dI 4 (by decide)), c7.fx f (dI 200 (by decide)) (fun k hk => dA k (by revert k; decide)), hw⟩, g, hn, t1, fun k hk => ?_, (f.1 1 (dI 1 (by decide))).trans t3, hr⟩
  rw [f.2.1 1 (dA 1 (by decide))]
  exact t2 k hk
theorem FXz {s : St} {n : Nat} (h : sz s ≤ n) : FX [] [] s (sz' s n) := ⟨fun _ _ => rfl, fun _ _ => rfl, rfl, h, fun _ _ => rfl⟩
theorem CV.z {s : St} {w : WD} {n : Nat} (H : CV s w) (h : sz s ≤ n) : CV (sz' s n) w := H.fx (FXz h) H.1.2.2.2.2.2.2.2 H.2.2.2.2.2.2
theorem ON.rf {s : St} {w : WD} {c : Nat} (H : CV s w) : ON s c s w := ⟨H, KA.rf, Nat.le_refl _, Nat.le_add_right _ _⟩
theorem ON.more {s s' : St} {w : WD} {c c' : Nat} (h : ON s c s' w) (hc : c ≤ c') : ON s c' s' w := ⟨h.1, h.2.1, h.2.2.1, by have := h.2.2.2; omega⟩
theorem ON.trans {s s1 s2 : St} {w w' : WD} {c c' : Nat} (h : ON s c s1 w) (h2 : ON s1 c' s2 w') : ON s (c + c') s2 w' := ⟨h2.1, h.2.1.trans h2.2.1, Nat.le_trans h.2.2.1 h2.2.2.1, by have h3 := h.2.2.2; have h4 := h2.2.2.2; omega⟩
/-- an exception lies behind the rest -/
theorem ON.ex {s s' : St} {w : WD} {c : Nat} (h : ON s c s' w) : ON s (c + 1) (sz' s' (sz s' + 1)) w := ⟨h.1.z (Nat.le_succ _), h.2.1, Nat.le_trans h.2.2.1 (Nat.le_succ _), Nat.add_le_add_right h.2.2.2 1⟩
theorem ON.ex0 {s : St} {w : WD} (h : CV s w) : ON s 1 (sz' s (sz s + 1)) w := ⟨h.z (Nat.le_succ _), KA.rf, Nat.le_succ _, Nat.le_refl _⟩
section WS
variable {F Z : Nat} {s : St} {w : WD}
theorem CV.h (H : CV s w) : gI s 2 = io (yh (vy w)) ∧ yh (vy w) ≤ 1000 := ⟨H.1.1, H.2.1.1⟩
theorem CV.c (H : CV s w) : gI s 1157 = io (yc (vy w)) ∧ gI s 1158 = io (yw (vy w)) ∧ yc (vy w) ≤ 4000 ∧ yw (vy w) ≤ yc (vy w) := ⟨H.1.2.2.2.2.1.1, H.1.2.2.2.2.1.2.1, H.2.1.2.2.2.1.1, H.2.1.2.2.2.1.2.2.1⟩
theorem CV.n (H : CV s w) : gI s 768 = io (vn w) ∧ vn w ≤ 8 := ⟨H.1.2.1.2, H.2.2.1⟩
theorem CV.d (H : CV s w) : gI s 774 = io (yd (vy w)) ∧ yd (vy w) ≤ 4000 := ⟨H.1.2.2.2.1.1, H.2.1.2.2.1.1⟩
theorem CV.r (H : CV s w) : gI s 4 = io (vR w) ∧ vR w ≤ 4 := ⟨H.1.2.2.2.2.2.1.1, H.2.1.2.2.2.2.2.1.1⟩
theorem CV.h8 (H : CV s w) : gI s 2 / io 8 = io (yh (vy w) / 8) := by rw [H.h.1]; exact io_div (by have := H.h.2; omega) (by decide)
theorem W_now (H : CV s w) : f_P_now F s = some (io (yh (vy w)), s) := by unfold f_P_now; rw [H.h.1]
theorem W_alarms (H : CV s w) : f_P_alarms F s = some (io (yc (vy w)), s) := by unfold f_P_alarms; rw [H.c.1]
theorem W_waiting (H : CV s w) : f_P_waiting F s = some (io (yc (vy w) - yw (vy w)), s) := by
  obtain ⟨c1, c2, c3, c4⟩ := H.c
  unfold f_P_waiting; rw [c1, c2, io_sub c4]
/-- a shift to come -/
theorem W_toCome (H : CV s w) (x : Int32) : f_P_isToCome F s x = some (if io (yh (vy w) / 8) < x ∧ x < io 126 then io 1 else io 0, s) := by
  obtain ⟨h1, h2⟩ := H.h
  have e : gI s 2 / 8 = io (yh (vy w) / 8) := H.h8
  unfold f_P_isToCome
  rw [e]
  by_cases c1 : x ≤ io (yh (vy w) / 8)
  · rw [if_pos c1, if_neg (fun c => by rw [← i32_nle] at c; exact c.1 c1)]; rfl
  · rw [if_neg c1]
    by_cases c2 : (126 : Int32) ≤ x
    · rw [if_pos c2, if_neg (fun c => by have c3 := c.2; rw [← i32_nle] at c3; exact c3 c2)]; rfl
    · rw [if_neg c2, if_pos ⟨by rw [← i32_nle]; exact c1, by rw [← i32_nle]; exact c2⟩]; rfl
theorem W_person (H : CV s w) (x : Int32) : f_Rota_hasPerson F s x = some (if io 0 ≤ x ∧ x < io (vn w) then io 1 else io 0, s) := by
  obtain ⟨h1, h2⟩ := H.n
  unfold f_Rota_hasPerson
  rw [h1]
  by_cases c1 : x < 0
  · rw [if_pos c1, if_neg (fun c => by have c3 := c.1; rw [← i32_nlt] at c3; exact c3 c1)]; rfl
  · rw [if_neg c1]
    by_cases c2 : io (vn w) ≤ x
    · rw [if_pos c2, if_neg (fun c => by have c3 := c.2; rw [← i32_nle] at c3; exact c3 c2)]; rfl
    · rw [if_neg c2, if_pos ⟨by have c3 := c1; rw [i32_nlt] at c3; exact c3, by rw [← i32_nle]; exact c2⟩]; rfl
theorem W_next (hF : 5000 ≤ F) (H : CV s w) (h9 : yh (vy w) / 8 + 1 < 126) : f_P_next F s = some (hold2 (yg (vy w)) (vn w) (yd (vy w)) (yh (vy w) / 8 + 1), s) := by
  obtain ⟨h1, h2⟩ := H.h
  have e8 : gI s 2 / 8 = io (yh (vy w) / 8) := H.h8
  have e : gI s 2 / 8 + 1 = io (yh (vy w) / 8 + 1) := by rw [e8]; exact io_add _ _
  have ho := P_hold2 (F := F) (h := yh (vy w)) hF H.1.2.1 H.1.2.2.1 H.2.1.2.1 H.1.2.2.2.1 H.2.1.2.2.1 h9
  unfold f_P_next
  rw [e, W_toCome H, if_pos ⟨by rw [io_lt (by omega) (by omega)]; omega, by rw [io_lt (by omega) (by omega)]; omega⟩]
  simp (disch := omega) only [Option.bind_some, Nat.reduceEqDiff, Nat.add_zero, Nat.zero_add, Nat.reduceLT, Nat.reduceLeDiff, Nat.reduceAdd, Nat.reduceSub, Nat.reduceMul, Nat.reduceDiv, Nat.lt_irrefl, Nat.not_lt_zero, Nat.zero_le, Nat.one_ne_zero, Nat.succ_ne_zero,  lt_def, i32_lit, reduceIte, P_isIn_eq, or_false, false_or, or_true, true_or, and_true, true_and, and_false, false_and, not_true, not_false_eq_true, eq_self, if_true, if_false, not_or, not_and, Nat.not_lt, Nat.not_le, io_eq, ho]
/-- planned, holder -/
theorem W_planned (H : CV s w) {j : Nat} (h1 : yh (vy w) / 8 < j) (h2 : j < 126) : f_P_planned F Z s (io j) = some (.inl (plan2 (yg (vy w)) (vn w) j), s) := by
  have hp := P_plan2 (F := F) (h := 0) H.1.2.1 H.1.2.2.1 h2
  unfold f_P_planned
  rw [W_toCome H, if_pos ⟨by rw [io_lt (by omega) (by omega)]; omega, by rw [io_lt (by omega) (by omega)]; omega⟩]
  simp (disch := omega) only [Option.bind_some, Nat.reduceEqDiff, Nat.add_zero, Nat.zero_add, Nat.reduceLT, Nat.reduceLeDiff, Nat.reduceAdd, Nat.reduceSub, Nat.reduceMul, Nat.reduceDiv, Nat.lt_irrefl, Nat.not_lt_zero, Nat.zero_le, Nat.one_ne_zero, Nat.succ_ne_zero,  lt_def, i32_lit, reduceIte, P_isIn_eq, or_false, false_or, or_true, true_or, and_true, true_and, and_false, false_and, not_true, not_false_eq_true, eq_self, if_true, if_false, not_or, not_and, Nat.not_lt, Nat.not_le, io_eq, hp]
theorem W_planned_x (H : CV s w) {x : Int32} (h : ¬ (io (yh (vy w) / 8) < x ∧ x < io 126)) : f_P_planned F Z s x = xz Z s 0 := by
  unfold f_P_planned
  rw [W_toCome H, if_neg h]
  simp (disch := omega) only [Option.bind_some, Nat.reduceEqDiff, Nat.add_zero, Nat.zero_add, Nat.reduceLT, Nat.reduceLeDiff, Nat.reduceAdd, Nat.reduceSub, Nat.reduceMul, Nat.reduceDiv, Nat.lt_irrefl, Nat.not_lt_zero, Nat.zero_le, Nat.one_ne_zero, Nat.succ_ne_zero,  lt_def, i32_lit, reduceIte, P_isIn_eq, or_false, false_or, or_true, true_or, and_true, true_and, and_false, false_and, not_true, not_false_eq_true, eq_self, if_true, if_false, not_or, not_and, Nat.not_lt, Nat.not_le]
theorem W_holder (H : CV s w) {j : Nat} (h1 : j ≤ yh (vy w) / 8) : f_P_holder F Z s (io j) = some (.inl (gho (yg (vy w)) j), s) := by
  obtain ⟨e1, e2⟩ := H.h
  have hp := P_hold2g (F := F) (h := 0) (n := 0) H.1.2.2.1 (show j < 126 by omega)
  have e := H.h8
  have c1 : ¬ yh (vy w) / 8 < j := by omega
  have c0 : ¬ j < 0 := by omega
  simp (disch := omega) only [f_P_holder, e, Option.bind_some, Nat.reduceEqDiff, Nat.add_zero, Nat.zero_add, Nat.reduceLT, Nat.reduceLeDiff, Nat.reduceAdd, Nat.reduceSub, Nat.reduceMul, Nat.reduceDiv, Nat.lt_irrefl, Nat.not_lt_zero, Nat.zero_le, Nat.one_ne_zero, Nat.succ_ne_zero,  lt_def, i32_lit, reduceIte, P_isIn_eq, or_false, false_or, or_true, true_or, and_true, true_and, and_false, false_and, not_true, not_false_eq_true, eq_self, if_true, if_false, not_or, not_and, Nat.not_lt, Nat.not_le, io_lt, c1, c0, io_eq, hp]
theorem W_holder_x (H : CV s w) {x : Int32} (h : x < io 0 ∨ io (yh (vy w) / 8) < x) : f_P_holder F Z s x = xz Z s 0 := by
  obtain ⟨e1, e2⟩ := H.h
  have e : gI s 2 / 8 = io (yh (vy w) / 8) := H.h8
  unfold f_P_holder
  rw [e]
  simp (disch := omega) only [Option.bind_some, Nat.reduceEqDiff, Nat.add_zero, Nat.zero_add, Nat.reduceLT, Nat.reduceLeDiff, Nat.reduceAdd, Nat.reduceSub, Nat.reduceMul, Nat.reduceDiv, Nat.lt_irrefl, Nat.not_lt_zero, Nat.zero_le, Nat.one_ne_zero, Nat.succ_ne_zero,  lt_def, i32_lit, reduceIte, P_isIn_eq, or_false, false_or, or_true, true_or, and_true, true_and, and_false, false_and, not_true, not_false_eq_true, eq_self, if_true, if_false, not_or, not_and, Nat.not_lt, Nat.not_le, h]
/-- nights, debts -/
def ngt (g : RG) (q : Nat) : Nat := cnt (fun j => decide (j % 3 = 0 ∧ gho g j = io q)) 126
def owe (g : RG) (d a b : Nat) : Nat := cnt (fun i => decide (gda g i = a ∧ gdb g i = b)) d
theorem W_nights (hF : 5000 ≤ F) (H : CV s w) {q : Nat} (hq : q < vn w) : f_P_nights F Z s (io q) = some (.inl (io (ngt (yg (vy w)) q)), s) := by
  have hn := H.n.2
  have hl := P_nights_loop (F := F) (s := s) (a := io q) 126 F 0 (by omega) (by omega)
  have e : cnt (fun j => decide (j % 3 = 0 ∧ gA s 15 j = io q)) 126 = ngt (yg (vy w)) q := cnt_ext (fun j hj => by rw [(H.1.2.2.1 j hj).2.2])
  rw [e] at hl
  have hl' : f_Rota_nightsOf F s (io q) = some (io (ngt (yg (vy w)) q), s) := hl
  unfold f_P_nights
  rw [W_person H, if_pos ⟨by rw [io_le (by omega) (by omega)]; omega, by rw [io_lt (by omega) (by omega)]; omega⟩]
  simp (disch := omega) only [Option.bind_some, Nat.reduceEqDiff, Nat.add_zero, Nat.zero_add, Nat.reduceLT, Nat.reduceLeDiff, Nat.reduceAdd, Nat.reduceSub, Nat.reduceMul, Nat.reduceDiv, Nat.lt_irrefl, Nat.not_lt_zero, Nat.zero_le, Nat.one_ne_zero, Nat.succ_ne_zero,  lt_def, i32_lit, reduceIte, P_isIn_eq, or_false, false_or, or_true, true_or, and_true, true_and, and_false, false_and, not_true, not_false_eq_true, eq_self, if_true, if_false, not_or, not_and, Nat.not_lt, Nat.not_le, io_eq, hl']
theorem W_nights_x (H : CV s w) {x : Int32} (h : ¬ (io 0 ≤ x ∧ x < io (vn w))) : f_P_nights F Z s x = xz Z s 2 := by
  unfold f_P_nights
  rw [W_person H, if_neg h]
  simp (disch := omega) only [Option.bind_some, Nat.reduceEqDiff, Nat.add_zero, Nat.zero_add, Nat.reduceLT, Nat.reduceLeDiff, Nat.reduceAdd, Nat.reduceSub, Nat.reduceMul, Nat.reduceDiv, Nat.lt_irrefl, Nat.not_lt_zero, Nat.zero_le, Nat.one_ne_zero, Nat.succ_ne_zero,  lt_def, i32_lit, reduceIte, P_isIn_eq, or_false, false_or, or_true, true_or, and_true, true_and, and_false, false_and, not_true, not_false_eq_true, eq_self, if_true, if_false, not_or, not_and, Nat.not_lt, Nat.not_le]
theorem P_owes_loop2 {d : Nat} {g : RG} {n : Nat} (hn : n ≤ 8) (Q : DBc s g d) (K : DBg g n d) {a b : Nat} (ha : a < 8) (hb : b < 8) : ∀ (k m j : Nat), j + k = d → k < m → f_Rota_debtsOf_b5 F m s (io a) (io b) (io (cnt (fun i => decide (gda g i = a ∧ gdb g i = b)) j)) (io j) = some (io (owe g d a b), s) := by
  intro k
  have hd : d ≤ 4000 := K.1
  induction k with
  | zero =>
    intro m j hj hm
    obtain ⟨m, rfl⟩ : ∃ m', m = m' + 1 := ⟨m - 1, by omega⟩
    have hj' : j = d := by omega
    subst hj'
    simp (disch := omega) only [f_Rota_debtsOf_b5, Option.bind_some, Nat.reduceEqDiff, Nat.add_zero, Nat.zero_add, Nat.reduceLT, Nat.reduceLeDiff, Nat.reduceAdd, Nat.reduceSub, Nat.reduceMul, Nat.reduceDiv, Nat.lt_irrefl, Nat.not_lt_zero, Nat.zero_le, Nat.one_ne_zero, Nat.succ_ne_zero,  lt_def, i32_lit, reduceIte, P_isIn_eq, or_false, false_or, or_true, true_or, and_true, true_and, and_false, false_and, not_true, not_false_eq_true, eq_self, if_true, if_false, not_or, not_and, Nat.not_lt, Nat.not_le, Q.1, io_le, Nat.le_refl]
    rfl
  | succ k ih =>
    intro m j hj hm
    obtain ⟨m, rfl⟩ : ∃ m', m = m' + 1 := ⟨m - 1, by omega⟩
    have h1 : ¬ d ≤ j := by omega
    have h2 : ¬ 4000 ≤ j := by omega
    obtain ⟨q1, q2⟩ := Q.2 j (by omega)
    obtain ⟨k1, k2⟩ := K.2 j (by omega)
    have hc := cnt_le (fun i => decide (gda g i = a ∧ gdb g i = b)) j
    have hs : cnt (fun i => decide (gda g i = a ∧ gdb g i = b)) (j + 1) = cnt (fun i => decide (gda g i = a ∧ gdb g i = b)) j + if gda g j = a ∧ gdb g j = b then 1 else 0 := by
      show _ + _ = _
      by_cases hh : gda g j = a ∧ gdb g j = b <;> simp [hh]
    have h3 := ih m (j + 1) (by omega) (by omega)
    rw [hs] at h3
    by_cases ca : gda g j = a
    · by_cases cb : gdb g j = b
      · rw [if_pos ⟨ca, cb⟩] at h3
        simp (disch := omega) only [f_Rota_debtsOf_b5, Option.bind_some, Nat.reduceEqDiff, Nat.add_zero, Nat.zero_add, Nat.reduceLT, Nat.reduceLeDiff, Nat.reduceAdd, Nat.reduceSub, Nat.reduceMul, Nat.reduceDiv, Nat.lt_irrefl, Nat.not_lt_zero, Nat.zero_le, Nat.one_ne_zero, Nat.succ_ne_zero,  lt_def, i32_lit, reduceIte, P_isIn_eq, or_false, false_or, or_true, true_or, and_true, true_and, and_false, false_and, not_true, not_false_eq_true, eq_self, if_true, if_false, not_or, not_and, Nat.not_lt, Nat.not_le, Q.1, io_le, h1, h2, ix_io, q1, q2, io_eq, ca, cb, io_add]
        exact h3
      · rw [if_neg (fun h => cb h.2)] at h3
        simp (disch := omega) only [f_Rota_debtsOf_b5, Option.bind_some, Nat.reduceEqDiff, Nat.add_zero, Nat.zero_add, Nat.reduceLT, Nat.reduceLeDiff, Nat.reduceAdd, Nat.reduceSub, Nat.reduceMul, Nat.reduceDiv, Nat.lt_irrefl, Nat.not_lt_zero, Nat.zero_le, Nat.one_ne_zero, Nat.succ_ne_zero,  lt_def, i32_lit, reduceIte, P_isIn_eq, or_false, false_or, or_true, true_or, and_true, true_and, and_false, false_and, not_true, not_false_eq_true, eq_self, if_true, if_false, not_or, not_and, Nat.not_lt, Nat.not_le, Q.1, io_le, h1, h2, ix_io, q1, q2, io_eq, ca, cb, io_add]
        exact h3
    · rw [if_neg (fun h => ca h.1)] at h3
      simp (disch := omega) only [f_Rota_debtsOf_b5, Option.bind_some, Nat.reduceEqDiff, Nat.add_zero, Nat.zero_add, Nat.reduceLT, Nat.reduceLeDiff, Nat.reduceAdd, Nat.reduceSub, Nat.reduceMul, Nat.reduceDiv, Nat.lt_irrefl, Nat.not_lt_zero, Nat.zero_le, Nat.one_ne_zero, Nat.succ_ne_zero,  lt_def, i32_lit, reduceIte, P_isIn_eq, or_false, false_or, or_true, true_or, and_true, true_and, and_false, false_and, not_true, not_false_eq_true, eq_self, if_true, if_false, not_or, not_and, Nat.not_lt, Nat.not_le, Q.1, io_le, h1, h2, ix_io, q1, q2, io_eq, ca, io_add]
      exact h3
theorem W_owes (hF : 5000 ≤ F) (H : CV s w) {a b : Nat} (ha : a < vn w) (hb : b < vn w) : f_P_owes F Z s (io a) (io b) = some (.inl (io (owe (yg (vy w)) (yd (vy w)) a b)), s) := by
  have hn := H.n.2
  have hl := P_owes_loop2 (F := F) hn H.1.2.2.2.1 H.2.1.2.2.1 (show a < 8 by omega) (show b < 8 by omega) (yd (vy w)) F 0 (by omega) (by have := H.d.2; omega)
  have hl' : f_Rota_debtsOf F s (io a) (io b) = some (io (owe (yg (vy w)) (yd (vy w)) a b), s) := hl
  unfold f_P_owes
  rw [W_person H, if_pos ⟨by rw [io_le (by omega) (by omega)]; omega, by rw [io_lt (by omega) (by omega)]; omega⟩]
  simp (disch := omega) only [Option.bind_some, Nat.reduceEqDiff, Nat.add_zero, Nat.zero_add, Nat.reduceLT, Nat.reduceLeDiff, Nat.reduceAdd, Nat.reduceSub, Nat.reduceMul, Nat.reduceDiv, Nat.lt_irrefl, Nat.not_lt_zero, Nat.zero_le, Nat.one_ne_zero, Nat.succ_ne_zero,  lt_def, i32_lit, reduceIte, P_isIn_eq, or_false, false_or, or_true, true_or, and_true, true_and, and_false, false_and, not_true, not_false_eq_true, eq_self, if_true, if_false, not_or, not_and, Nat.not_lt, Nat.not_le, io_eq, W_person H, io_le, io_lt, ha, hb, hl']
theorem W_owes_x (H : CV s w) {x y : Int32} (h : ¬ (io 0 ≤ x ∧ x < io (vn w)) ∨ ¬ (io 0 ≤ y ∧ y < io (vn w))) : f_P_owes F Z s x y = xz Z s 2 := by
  unfold f_P_owes
  rw [W_person H]
  by_cases c1 : io 0 ≤ x ∧ x < io (vn w)
  · have c2 := h.resolve_left (fun c => c c1)
    rw [if_pos c1]
    simp (disch := omega) only [Option.bind_some, Nat.reduceEqDiff, Nat.add_zero, Nat.zero_add, Nat.reduceLT, Nat.reduceLeDiff, Nat.reduceAdd, Nat.reduceSub, Nat.reduceMul, Nat.reduceDiv, Nat.lt_irrefl, Nat.not_lt_zero, Nat.zero_le, Nat.one_ne_zero, Nat.succ_ne_zero,  lt_def, i32_lit, reduceIte, P_isIn_eq, or_false, false_or, or_true, true_or, and_true, true_and, and_false, false_and, not_true, not_false_eq_true, eq_self, if_true, if_false, not_or, not_and, Nat.not_lt, Nat.not_le, io_eq, W_person H, c2]
  · rw [if_neg c1]
    simp (disch := omega) only [Option.bind_some, Nat.reduceEqDiff, Nat.add_zero, Nat.zero_add, Nat.reduceLT, Nat.reduceLeDiff, Nat.reduceAdd, Nat.reduceSub, Nat.reduceMul, Nat.reduceDiv, Nat.lt_irrefl, Nat.not_lt_zero, Nat.zero_le, Nat.one_ne_zero, Nat.succ_ne_zero,  lt_def, i32_lit, reduceIte, P_isIn_eq, or_false, false_or, or_true, true_or, and_true, true_and, and_false, false_and, not_true, not_false_eq_true, eq_self, if_true, if_false, not_or, not_and, Nat.not_lt, Nat.not_le]
end WS
