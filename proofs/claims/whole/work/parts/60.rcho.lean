/-! the class runs a row of codes -/
def stkJ (g : Nat → Int64) : List Int64 → Prop
  | [] => True
  | x :: w => g w.length = x ∧ stkJ g w
theorem stkJ_ext {g g' : Nat → Int64} : ∀ w : List Int64, (∀ i, i < w.length → g' i = g i) → stkJ g w → stkJ g' w := by
  intro w
  induction w with
  | nil => intro _ _; trivial
  | cons x w ih =>
    intro h hs
    exact ⟨by rw [h _ (by show w.length < w.length + 1; omega)]; exact hs.1, ih (fun i hi => h i (by show i < w.length + 1; omega)) hs.2⟩
def RS (s : St) (st : List Int64) : Prop := gI s 2178 = io st.length ∧ stkJ (gJ s 38) st
def FH (s s' : St) : Prop := Fr [2178] [] s s' ∧ gL s' = gL s ∧ ∀ k, k ≠ 38 → gJ s' k = gJ s k
theorem FH.rf {s : St} : FH s s := ⟨Fr.rf, rfl, fun _ _ => rfl⟩
theorem FH.trans {s s1 s2 : St} (h : FH s s1) (h2 : FH s1 s2) : FH s s2 := ⟨h.1.trans h2.1, h2.2.1.trans h.2.1, fun k hk => (h2.2.2 k hk).trans (h.2.2 k hk)⟩
theorem pushR {F : Nat} {s : St} {st : List Int64} {x : Int64} (H : RS s st) (hl : st.length ≤ 39) : ∃ s', f_Runner_push F s x = some s' ∧ FH s s' ∧ RS s' (x :: st) ∧ gI s' = gI (sI s 2178 (io (st.length + 1))) ∧ gA s' = gA s ∧ gL s' = gL s := by
  refine ⟨sI (sJ s 38 st.length x) 2178 (io (st.length + 1)), ?_, ⟨Fr.rf.J.I (by decide), rfl, fun k hk => ?_⟩, ⟨rfl, ?_, stkJ_ext st (fun i hi => ?_) H.2⟩, rfl, rfl, rfl⟩
  · have c1 : ¬ 39 < st.length := by omega
    have c0 : ¬ st.length < 0 := by omega
    simp (disch := omega) only [f_Runner_push, Option.bind_some, Nat.reduceEqDiff, Nat.add_zero, Nat.zero_add, Nat.reduceLT, Nat.reduceLeDiff, Nat.reduceAdd, Nat.reduceSub, Nat.reduceMul, Nat.reduceDiv, Nat.lt_irrefl, Nat.not_lt_zero, Nat.zero_le, Nat.one_ne_zero, Nat.succ_ne_zero,  lt_def, i32_lit, reduceIte, P_isIn_eq, M_isIn_eq, M_goes_eq, or_false, false_or, or_true, true_or, and_true, true_and, and_false, false_and, not_true, not_false_eq_true, eq_self, if_true, if_false, not_or, not_and, Nat.not_lt, Nat.not_le, H.1, io_lt, c0, io_sub, c1, io_eq, ix_io, gI_sJ, io_add]
  · funext j
    show gJ (sJ s 38 st.length x) k j = _
    rw [gJ_sJ, if_neg hk]
  · show gJ (sJ s 38 st.length x) 38 st.length = x
    rw [gJ_sJ, if_pos rfl, if_pos rfl]
  · show gJ (sJ s 38 st.length x) 38 i = _
    rw [gJ_sJ, if_pos rfl, if_neg (by omega)]
theorem pullR {F : Nat} {s : St} {st : List Int64} {x : Int64} (H : RS s (x :: st)) (hl : st.length ≤ 39) : f_Runner_pull F s = some (x, sI s 2178 (io st.length)) ∧ FH s (sI s 2178 (io st.length)) ∧ RS (sI s 2178 (io st.length)) st := by
  obtain ⟨h1, h2, h3⟩ := H
  rw [List.length_cons] at h1
  refine ⟨?_, ⟨Fr.rf.I (by decide), rfl, fun _ _ => rfl⟩, rfl, h3⟩
  have c1 : ¬ 40 < st.length + 1 := by omega
  have c0 : ¬ st.length + 1 < 1 := by omega
  simp (disch := omega) only [f_Runner_pull, Option.bind_some, Nat.reduceEqDiff, Nat.add_zero, Nat.zero_add, Nat.reduceLT, Nat.reduceLeDiff, Nat.reduceAdd, Nat.reduceSub, Nat.reduceMul, Nat.reduceDiv, Nat.lt_irrefl, Nat.not_lt_zero, Nat.zero_le, Nat.one_ne_zero, Nat.succ_ne_zero,  lt_def, i32_lit, reduceIte, P_isIn_eq, M_isIn_eq, M_goes_eq, or_false, false_or, or_true, true_or, and_true, true_and, and_false, false_and, not_true, not_false_eq_true, eq_self, if_true, if_false, not_or, not_and, Nat.not_lt, Nat.not_le, h1, io_lt, c0, io_sub, c1, io_eq, ix_io, Nat.add_sub_cancel, gI_sI, gJ_sI, h2]
/-- a stretch of codes -/
def CRa (s : St) (at' : Nat) (rw : List Nat) : Prop := at' + rw.length ≤ 80 ∧ ∀ i (h : i < rw.length), gA s 27 (at' + i) = io rw[i]
theorem CRa.fr {s s' : St} {p : Nat} {rw : List Nat} (h : CRa s p rw) (f : FH s s') : CRa s' p rw := ⟨h.1, fun i hi => by rw [f.1.ga 27 (by decide)]; exact h.2 i hi⟩
theorem CRa.left {s : St} {p : Nat} {a b : List Nat} (h : CRa s p (a ++ b)) : CRa s p a := by
  refine ⟨by have := h.1; rw [List.length_append] at this; omega, fun i hi => ?_⟩
  have := h.2 i (by rw [List.length_append]; omega)
  rw [List.getElem_append_left hi] at this
  exact this
theorem CRa.right {s : St} {p : Nat} {a b : List Nat} (h : CRa s p (a ++ b)) : CRa s (p + a.length) b := by
  refine ⟨by have := h.1; rw [List.length_append] at this; omega, fun i hi => ?_⟩
  have := h.2 (a.length + i) (by rw [List.length_append]; omega)
  rw [List.getElem_append_right (Nat.le_add_right _ _)] at this
  rw [Nat.add_assoc, this]
  congr 2
  simp
theorem CRa.hd {s : St} {p x : Nat} {a : List Nat} (h : CRa s p (x :: a)) : gA s 27 p = io x ∧ p < 80 := ⟨h.2 0 (Nat.succ_pos _), by have := h.1; rw [List.length_cons] at this; omega⟩
theorem CRa.tl {s : St} {p x : Nat} {a : List Nat} (h : CRa s p (x :: a)) : CRa s (p + 1) a := CRa.right (a := [x]) h
section RST
variable {F p : Nat} {s : St} {st : List Int64} {lg : Int32}
theorem step_num {v : Nat} {a : List Nat} (H : RS s st) (hl : st.length ≤ 39) (C : CRa s p (35 :: v :: a)) : ∃ s', f_Runner_step F s (io p) lg = some (io (p + 2), s') ∧ FH s s' ∧ RS s' ((io v).toInt64 :: st) := by
  obtain ⟨c1, c2⟩ := C.hd
  obtain ⟨c3, c4⟩ := C.tl.hd
  obtain ⟨s', a1, a2, a3, -⟩ := pushR (F := F) (x := (io v).toInt64) H hl
  refine ⟨s', ?_, a2, a3⟩
  have n0 : ¬ p < 0 := by omega
  have n1 : ¬ 80 ≤ p + 1 := by omega
  simp (disch := omega) only [f_Runner_step, Option.bind_some, Nat.reduceEqDiff, Nat.add_zero, Nat.zero_add, Nat.reduceLT, Nat.reduceLeDiff, Nat.reduceAdd, Nat.reduceSub, Nat.reduceMul, Nat.reduceDiv, Nat.lt_irrefl, Nat.not_lt_zero, Nat.zero_le, Nat.one_ne_zero, Nat.succ_ne_zero,  lt_def, i32_lit, reduceIte, P_isIn_eq, M_isIn_eq, M_goes_eq, or_false, false_or, or_true, true_or, and_true, true_and, and_false, false_and, not_true, not_false_eq_true, eq_self, if_true, if_false, not_or, not_and, Nat.not_lt, Nat.not_le, io_lt, n0, c2, ix_io, c1, io_eq, io_add, io_le, n1, c3, a1]
theorem step_fld {h m k f : Nat} {L : Nat → LR} {a : List Nat} (H : RS s st) (hl : st.length ≤ 39) (C : CRa s p (f :: a)) (hf : fdc f = true) (LC : LGc s L m) (G : LGg L m h) (hh : h ≤ 1000) (hk : k < m) : ∃ s', f_Runner_step F s (io p) (io (rI (L k))) = some (io (p + 1), s') ∧ FH s s' ∧ RS s' ((fld f (rec1 (L k))).toInt64 :: st) := by
  obtain ⟨c1, c2⟩ := C.hd
  have hf' : f = 112 ∨ f = 108 ∨ f = 118 ∨ f = 104 := of_decide_eq_true hf
  have hfo := fieldOf_eq (F := F) (f := f) LC G hh hk (by omega)
  obtain ⟨s', a1, a2, a3, -⟩ := pushR (F := F) (x := (fld f (rec1 (L k))).toInt64) H hl
  refine ⟨s', ?_, a2, a3⟩
  have n0 : ¬ p < 0 := by omega
  have n1 : ¬ f = 35 := by omega
  have hif := isField_eq (F := F) (s := s) (show f < 1000 by omega)
  rw [if_pos hf] at hif
  simp (disch := omega) only [f_Runner_step, Option.bind_some, Nat.reduceEqDiff, Nat.add_zero, Nat.zero_add, Nat.reduceLT, Nat.reduceLeDiff, Nat.reduceAdd, Nat.reduceSub, Nat.reduceMul, Nat.reduceDiv, Nat.lt_irrefl, Nat.not_lt_zero, Nat.zero_le, Nat.one_ne_zero, Nat.succ_ne_zero,  lt_def, i32_lit, reduceIte, P_isIn_eq, M_isIn_eq, M_goes_eq, or_false, false_or, or_true, true_or, and_true, true_and, and_false, false_and, not_true, not_false_eq_true, eq_self, if_true, if_false, not_or, not_and, Nat.not_lt, Nat.not_le, io_lt, n0, c2, ix_io, c1, io_eq, n1, hif, hfo, a1, io_add]
theorem step_neg {x : Int64} {a : List Nat} (H : RS s (x :: st)) (hl : st.length ≤ 39) (C : CRa s p (126 :: a)) : ∃ s', f_Runner_step F s (io p) lg = some (io (p + 1), s') ∧ FH s s' ∧ RS s' (-x :: st) := by
  obtain ⟨c1, c2⟩ := C.hd
  obtain ⟨b1, b2, b3⟩ := pullR (F := F) H hl
  obtain ⟨s', a1, a2, a3, -⟩ := pushR (F := F) (x := -x) b3 hl
  refine ⟨s', ?_, b2.trans a2, a3⟩
  have n0 : ¬ p < 0 := by omega
  have hif := isField_eq (F := F) (s := s) (show 126 < 1000 by omega)
  rw [if_neg (by decide)] at hif
  simp (disch := omega) only [f_Runner_step, Option.bind_some, Nat.reduceEqDiff, Nat.add_zero, Nat.zero_add, Nat.reduceLT, Nat.reduceLeDiff, Nat.reduceAdd, Nat.reduceSub, Nat.reduceMul, Nat.reduceDiv, Nat.lt_irrefl, Nat.not_lt_zero, Nat.zero_le, Nat.one_ne_zero, Nat.succ_ne_zero,  lt_def, i32_lit, reduceIte, P_isIn_eq, M_isIn_eq, M_goes_eq, or_false, false_or, or_true, true_or, and_true, true_and, and_false, false_and, not_true, not_false_eq_true, eq_self, if_true, if_false, not_or, not_and, Nat.not_lt, Nat.not_le, io_lt, n0, c2, ix_io, c1, io_eq, hif, b1, a1, io_add]
theorem step_not {x : Bool} {a : List Nat} (H : RS s (b64 x :: st)) (hl : st.length ≤ 39) (C : CRa s p (33 :: a)) : ∃ s', f_Runner_step F s (io p) lg = some (io (p + 1), s') ∧ FH s s' ∧ RS s' (b64 (!x) :: st) := by
  obtain ⟨c1, c2⟩ := C.hd
  obtain ⟨b1, b2, b3⟩ := pullR (F := F) H hl
  obtain ⟨s', a1, a2, a3, -⟩ := pushR (F := F) (x := b64 (!x)) b3 hl
  refine ⟨s', ?_, b2.trans a2, a3⟩
  have n0 : ¬ p < 0 := by omega
  have hif := isField_eq (F := F) (s := s) (show 33 < 1000 by omega)
  rw [if_neg (by decide)] at hif
  cases x with
  | true =>
    have h10 : ¬ b64 true = 0 := by rw [b64_0]; decide
    have a1' : f_Runner_push F (sI s 2178 (io st.length)) 0 = some s' := a1
    simp (disch := omega) only [f_Runner_step, Option.bind_some, Nat.reduceEqDiff, Nat.add_zero, Nat.zero_add, Nat.reduceLT, Nat.reduceLeDiff, Nat.reduceAdd, Nat.reduceSub, Nat.reduceMul, Nat.reduceDiv, Nat.lt_irrefl, Nat.not_lt_zero, Nat.zero_le, Nat.one_ne_zero, Nat.succ_ne_zero,  lt_def, i32_lit, reduceIte, P_isIn_eq, M_isIn_eq, M_goes_eq, or_false, false_or, or_true, true_or, and_true, true_and, and_false, false_and, not_true, not_false_eq_true, eq_self, if_true, if_false, not_or, not_and, Nat.not_lt, Nat.not_le, io_lt, n0, c2, ix_io, c1, io_eq, hif, b1, h10, a1', io_add]
  | false =>
    have h10 : b64 false = 0 := rfl
    have a1' : f_Runner_push F (sI s 2178 (io st.length)) 1 = some s' := a1
    rw [h10] at b1
    simp (disch := omega) only [f_Runner_step, Option.bind_some, Nat.reduceEqDiff, Nat.add_zero, Nat.zero_add, Nat.reduceLT, Nat.reduceLeDiff, Nat.reduceAdd, Nat.reduceSub, Nat.reduceMul, Nat.reduceDiv, Nat.lt_irrefl, Nat.not_lt_zero, Nat.zero_le, Nat.one_ne_zero, Nat.succ_ne_zero,  lt_def, i32_lit, reduceIte, P_isIn_eq, M_isIn_eq, M_goes_eq, or_false, false_or, or_true, true_or, and_true, true_and, and_false, false_and, not_true, not_false_eq_true, eq_self, if_true, if_false, not_or, not_and, Nat.not_lt, Nat.not_le, io_lt, n0, c2, ix_io, c1, io_eq, hif, b1, a1', io_add]
theorem step_bin {sg : Nat} {x y z : Int64} {a : List Nat} (H : RS s (y :: x :: st)) (hl : st.length ≤ 38) (C : CRa s p (sg :: a)) (hs : qop sg ∨ sg = 38 ∨ sg = 124) (hz : ∀ s, f_P_combined F s (io sg) x y = some (z, s)) : ∃ s', f_Runner_step F s (io p) lg = some (io (p + 1), s') ∧ FH s s' ∧ RS s' (z :: st) := by
  obtain ⟨c1, c2⟩ := C.hd
  obtain ⟨b1, b2, b3⟩ := pullR (F := F) H (by show st.length + 1 ≤ 39; omega)
  obtain ⟨d1, d2, d3⟩ := pullR (F := F) b3 (by omega)
  obtain ⟨s', a1, a2, a3, -⟩ := pushR (F := F) (x := z) d3 (by omega)
  refine ⟨s', ?_, (b2.trans d2).trans a2, a3⟩
  have hlt : sg < 1000 := by unfold qop at hs; omega
  have n0 : ¬ p < 0 := by omega
  have n35 : ¬ sg = 35 := by unfold qop at hs; omega
  have n33 : ¬ sg = 33 := by unfold qop at hs; omega
  have n126 : ¬ sg = 126 := by unfold qop at hs; omega
  have hif := isField_eq (F := F) (s := s) hlt
  rw [if_neg (by unfold fdc; rw [decide_eq_true_eq]; unfold qop at hs; omega)] at hif
  simp (disch := omega) only [f_Runner_step, Option.bind_some, Nat.reduceEqDiff, Nat.add_zero, Nat.zero_add, Nat.reduceLT, Nat.reduceLeDiff, Nat.reduceAdd, Nat.reduceSub, Nat.reduceMul, Nat.reduceDiv, Nat.lt_irrefl, Nat.not_lt_zero, Nat.zero_le, Nat.one_ne_zero, Nat.succ_ne_zero,  lt_def, i32_lit, reduceIte, P_isIn_eq, M_isIn_eq, M_goes_eq, or_false, false_or, or_true, true_or, and_true, true_and, and_false, false_and, not_true, not_false_eq_true, eq_self, if_true, if_false, not_or, not_and, Nat.not_lt, Nat.not_le, io_lt, n0, c2, ix_io, c1, io_eq, n35, hif, n126, n33, b1, d1, hz, a1, io_add]
theorem hold_it {m e cnt p' : Nat} {s' : St} (he : e ≤ 80) (hp : p < e) (hc : cnt ≤ p) (h : f_Runner_step F s (io p) lg = some (io p', s')) : f_Runner_holds_b6 F (m + 1) s (io e) lg (io p) (io cnt) = f_Runner_holds_b6 F m s' (io e) lg (io p') (io (cnt + 1)) := by
  have n1 : ¬ e ≤ cnt := by omega
  have n2 : ¬ e ≤ p := by omega
  simp (disch := omega) only [f_Runner_holds_b6, Option.bind_some, Nat.reduceEqDiff, Nat.add_zero, Nat.zero_add, Nat.reduceLT, Nat.reduceLeDiff, Nat.reduceAdd, Nat.reduceSub, Nat.reduceMul, Nat.reduceDiv, Nat.lt_irrefl, Nat.not_lt_zero, Nat.zero_le, Nat.one_ne_zero, Nat.succ_ne_zero,  lt_def, i32_lit, reduceIte, P_isIn_eq, M_isIn_eq, M_goes_eq, or_false, false_or, or_true, true_or, and_true, true_and, and_false, false_and, not_true, not_false_eq_true, eq_self, if_true, if_false, not_or, not_and, Nat.not_lt, Nat.not_le, io_le, n1, n2, h, io_add]
end RST
/-- a choice, by its codes -/
theorem holdsR {F h m k : Nat} {s0 : St} {L : Nat → LR} (LC : LGc s0 L m) (G : LGg L m h) (hh : h ≤ 1000) (hk : k < m) {base : List Int64} {e : Nat} (he : e ≤ 80) : ∀ (c : List CT) (fu p cnt : Nat) (s : St) (cs : List Bool), CRa s0 p (chrow c) → p + (chrow c).length = e → (∀ x ∈ c, tvC x) → depC c cs.length = some 1 → base.length + cs.length + c.length ≤ 38 → cnt ≤ p → (chrow c).length < fu → FH s0 s → RS s (cs.map b64 ++ base) →
    ∃ s', f_Runner_holds_b6 F fu s (io e) (io (rI (L k))) (io p) (io cnt) = some (if (runC (rec1 (L k)) c cs).headD false = true then io 1 else io 0, s') ∧ FH s0 s' ∧ RS s' base := by
  intro c
  induction c with
  | nil =>
    intro fu p cnt s cs C hpe hv hd hsz hcnt hfu f R
    obtain ⟨fu, rfl⟩ : ∃ f', fu = f' + 1 := ⟨fu - 1, by omega⟩
    have hpe' : p = e := hpe
    have hd' : some cs.length = some 1 := hd
    obtain ⟨b, rfl⟩ : ∃ b, cs = [b] := by
      cases cs with
      | nil => cases hd'
      | cons b cs => cases cs with
        | nil => exact ⟨b, rfl⟩
        | cons x y =>
          have h9 := Option.some.inj hd'
          have h9' : y.length + 1 + 1 = 1 := h9
          omega
    have hbl : base.length ≤ 39 := by omega
    obtain ⟨a1, a2, a3⟩ := pullR (F := F) (s := s) (x := b64 b) (st := base) R hbl
    refine ⟨sI s 2178 (io base.length), ?_, f.trans a2, a3⟩
    have hep : e ≤ p := by omega
    show _ = some (if b = true then io 1 else io 0, _)
    cases b with
    | true =>
      have h10 : ¬ b64 true = 0 := by rw [b64_0]; decide
      by_cases hc : e ≤ cnt
      · simp (disch := omega) only [f_Runner_holds_b6, Option.bind_some, Nat.reduceEqDiff, Nat.add_zero, Nat.zero_add, Nat.reduceLT, Nat.reduceLeDiff, Nat.reduceAdd, Nat.reduceSub, Nat.reduceMul, Nat.reduceDiv, Nat.lt_irrefl, Nat.not_lt_zero, Nat.zero_le, Nat.one_ne_zero, Nat.succ_ne_zero,  lt_def, i32_lit, reduceIte, P_isIn_eq, M_isIn_eq, M_goes_eq, or_false, false_or, or_true, true_or, and_true, true_and, and_false, false_and, not_true, not_false_eq_true, eq_self, if_true, if_false, not_or, not_and, Nat.not_lt, Nat.not_le, io_le, hc, a1, h10]
      · simp (disch := omega) only [f_Runner_holds_b6, Option.bind_some, Nat.reduceEqDiff, Nat.add_zero, Nat.zero_add, Nat.reduceLT, Nat.reduceLeDiff, Nat.reduceAdd, Nat.reduceSub, Nat.reduceMul, Nat.reduceDiv, Nat.lt_irrefl, Nat.not_lt_zero, Nat.zero_le, Nat.one_ne_zero, Nat.succ_ne_zero,  lt_def, i32_lit, reduceIte, P_isIn_eq, M_isIn_eq, M_goes_eq, or_false, false_or, or_true, true_or, and_true, true_and, and_false, false_and, not_true, not_false_eq_true, eq_self, if_true, if_false, not_or, not_and, Nat.not_lt, Nat.not_le, io_le, hc, hep, a1, h10]
    | false =>
      have h10 : b64 false = 0 := rfl
      rw [h10] at a1
      by_cases hc : e ≤ cnt
      · simp (disch := omega) only [f_Runner_holds_b6, Option.bind_some, Nat.reduceEqDiff, Nat.add_zero, Nat.zero_add, Nat.reduceLT, Nat.reduceLeDiff, Nat.reduceAdd, Nat.reduceSub, Nat.reduceMul, Nat.reduceDiv, Nat.lt_irrefl, Nat.not_lt_zero, Nat.zero_le, Nat.one_ne_zero, Nat.succ_ne_zero,  lt_def, i32_lit, reduceIte, P_isIn_eq, M_isIn_eq, M_goes_eq, or_false, false_or, or_true, true_or, and_true, true_and, and_false, false_and, not_true, not_false_eq_true, eq_self, if_true, if_false, not_or, not_and, Nat.not_lt, Nat.not_le, io_le, hc, a1, Bool.false_eq_true]
      · simp (disch := omega) only [f_Runner_holds_b6, Option.bind_some, Nat.reduceEqDiff, Nat.add_zero, Nat.zero_add, Nat.reduceLT, Nat.reduceLeDiff, Nat.reduceAdd, Nat.reduceSub, Nat.reduceMul, Nat.reduceDiv, Nat.lt_irrefl, Nat.not_lt_zero, Nat.zero_le, Nat.one_ne_zero, Nat.succ_ne_zero,  lt_def, i32_lit, reduceIte, P_isIn_eq, M_isIn_eq, M_goes_eq, or_false, false_or, or_true, true_or, and_true, true_and, and_false, false_and, not_true, not_false_eq_true, eq_self, if_true, if_false, not_or, not_and, Nat.not_lt, Nat.not_le, io_le, hc, hep, a1, Bool.false_eq_true]
  | cons x c ih =>
    intro fu p cnt s cs C hpe hv hd hsz hcnt hfu f R
    have hrw : chrow (x :: c) = chr1 x ++ chrow c := List.flatMap_cons
    rw [hrw] at C hpe hfu
    rw [List.length_append] at hpe hfu
    have hsz' : base.length + cs.length + (c.length + 1) ≤ 38 := hsz
    have Ca := C.left
    have Cb := C.right
    have LCs := fun {s1 : St} (g : FH s0 s1) => (LC.fr g.1 : LGc s1 L m)
    have hd' : (dc x cs.length).bind (depC c) = some 1 := hd
    have hrl : ∀ cs : List Bool, (cs.map b64 ++ base).length = cs.length + base.length := fun cs => by rw [List.length_append, List.length_map]
    -- what follows the token
    have go : ∀ (w : Nat) (fu' cnt' : Nat) (s' : St) (cs' : List Bool), (chr1 x).length = w → stC (rec1 (L k)) x cs = cs' → cs'.length ≤ cs.length + 1 → dc x cs.length = some cs'.length → FH s0 s' → RS s' (cs'.map b64 ++ base) → cnt' ≤ p + w → (chrow c).length < fu' → f_Runner_holds_b6 F fu s (io e) (io (rI (L k))) (io p) (io cnt) = f_Runner_holds_b6 F fu' s' (io e) (io (rI (L k))) (io (p + w)) (io cnt') →
        ∃ s', f_Runner_holds_b6 F fu s (io e) (io (rI (L k))) (io p) (io cnt) = some (if (runC (rec1 (L k)) (x :: c) cs).headD false = true then io 1 else io 0, s') ∧ FH s0 s' ∧ RS s' base := by
      intro w fu' cnt' s' cs' h1 h2 h3 h4 h5 h6 h7 h8 h9
      rw [h9]
      rw [h4, Option.bind_some] at hd'
      have := ih fu' (p + w) cnt' s' cs' (by rw [← h1]; exact Cb) (by omega) (fun y hy => hv y (List.mem_cons_of_mem _ hy)) hd' (by omega) h7 h8 h5 h6
      have e9 : runC (rec1 (L k)) (x :: c) cs = runC (rec1 (L k)) c cs' := by rw [← h2]; rfl
      rw [e9]
      exact this
    rcases hv x List.mem_cons_self with ⟨v1, v2, v3, v4⟩ | v1 | ⟨v1, v2⟩
    · obtain ⟨sg, fi, v, b⟩ := x
      have v1' : cmc sg = true := v1
      have v2' : fdc fi = true := v2
      have hqs : qop sg := by have : sg = 60 ∨ sg = 62 ∨ sg = 61 := of_decide_eq_true v1'; unfold qop; omega
      have hch : chr1 (sg, fi, v, b) = [fi, 35, v] ++ (if b = 1 then [126] else []) ++ [sg] := by unfold chr1; rw [if_pos v1]
      have hdc : dc (sg, fi, v, b) cs.length = some (cs.length + 1) := by unfold dc; rw [if_pos v1]
      rw [hch] at Ca hpe hfu
      have v4' : b ≤ 1 := v4
      rcases (by omega : b = 0 ∨ b = 1) with rfl | rfl
      · have Ca' : CRa s0 p [fi, 35, v, sg] := Ca
        obtain ⟨s1, a1, a2, a3⟩ := step_fld (F := F) R (by rw [hrl]; omega) (Ca'.fr f) v2' (LCs f) G hh hk
        obtain ⟨s2, b1, b2, b3⟩ := step_num (F := F) (lg := io (rI (L k))) a3 (by rw [List.length_cons, hrl]; omega) ((Ca'.fr (f.trans a2)).tl)
        obtain ⟨s3, d1, d2, d3⟩ := step_bin (F := F) (lg := io (rI (L k))) (p := p + 1 + 1 + 1) b3 (by rw [hrl]; omega) ((Ca'.fr ((f.trans a2).trans b2)).tl.tl.tl) (Or.inl hqs) (fun s => comb_C v1')
        have hl4 : ([fi, 35, v] ++ (if (0 : Nat) = 1 then [126] else []) ++ [sg]).length = 4 := rfl
        rw [hl4] at hpe hfu
        obtain ⟨fu, rfl⟩ : ∃ f', fu = f' + 3 := ⟨fu - 3, by omega⟩
        refine go 4 fu (cnt + 3) s3 (cmpv sg (fld fi (rec1 (L k))).toInt64 (sgn 0 v) :: cs) (by rw [hch]; rfl) (by unfold stC; rw [if_pos v1]) (Nat.le_refl _) hdc (((f.trans a2).trans b2).trans d2) d3 (by omega) (by omega) ?_
        rw [hold_it he (by omega) (by omega) a1, hold_it he (by omega) (by omega) b1]
        rw [show p + 1 + 2 = p + 1 + 1 + 1 by omega, hold_it he (by omega) (by omega) d1]
      · have Ca' : CRa s0 p [fi, 35, v, 126, sg] := Ca
        obtain ⟨s1, a1, a2, a3⟩ := step_fld (F := F) R (by rw [hrl]; omega) (Ca'.fr f) v2' (LCs f) G hh hk
        obtain ⟨s2, b1, b2, b3⟩ := step_num (F := F) (lg := io (rI (L k))) a3 (by rw [List.length_cons, hrl]; omega) ((Ca'.fr (f.trans a2)).tl)
        obtain ⟨s3, d1, d2, d3⟩ := step_neg (F := F) (lg := io (rI (L k))) (p := p + 1 + 1 + 1) b3 (by rw [List.length_cons, hrl]; omega) ((Ca'.fr ((f.trans a2).trans b2)).tl.tl.tl)
        obtain ⟨s4, e1, e2, e3⟩ := step_bin (F := F) (lg := io (rI (L k))) (p := p + 1 + 1 + 1 + 1) d3 (by rw [hrl]; omega) ((Ca'.fr (((f.trans a2).trans b2).trans d2)).tl.tl.tl.tl) (Or.inl hqs) (fun s => comb_C v1')
        have hl4 : ([fi, 35, v] ++ (if (1 : Nat) = 1 then [126] else []) ++ [sg]).length = 5 := rfl
        rw [hl4] at hpe hfu
        obtain ⟨fu, rfl⟩ : ∃ f', fu = f' + 4 := ⟨fu - 4, by omega⟩
        refine go 5 fu (cnt + 4) s4 (cmpv sg (fld fi (rec1 (L k))).toInt64 (sgn 1 v) :: cs) (by rw [hch]; rfl) (by unfold stC; rw [if_pos v1]) (Nat.le_refl _) hdc ((((f.trans a2).trans b2).trans d2).trans e2) e3 (by omega) (by omega) ?_
        rw [hold_it he (by omega) (by omega) a1, hold_it he (by omega) (by omega) b1]
        rw [show p + 1 + 2 = p + 1 + 1 + 1 by omega, hold_it he (by omega) (by omega) d1, hold_it he (by omega) (by omega) e1]
    · subst v1
      have hch : chr1 (33, 0, 0, 0) = [33] := rfl
      rw [hch] at Ca hpe hfu
      have h1 : 1 ≤ cs.length := by
        rcases Nat.lt_or_ge cs.length 1 with h9 | h9
        · have : dc (33, 0, 0, 0) cs.length = none := by unfold dc; rw [if_neg (by decide), if_pos rfl, if_neg (by omega)]
          rw [this] at hd'; cases hd'
        · exact h9
      obtain ⟨a, cs, rfl⟩ : ∃ a r, cs = a :: r := by
        cases cs with
        | nil => exact absurd h1 (by decide)
        | cons a r => exact ⟨a, r, rfl⟩
      have hsz2 : base.length + (cs.length + 1) + (c.length + 1) ≤ 38 := hsz'
      obtain ⟨s1, a1, a2, a3⟩ := step_not (F := F) (lg := io (rI (L k))) (st := cs.map b64 ++ base) R (by rw [hrl]; omega) (Ca.fr f)
      have hl1 : [33].length = 1 := rfl
      rw [hl1] at hpe hfu
      obtain ⟨fu, rfl⟩ : ∃ f', fu = f' + 1 := ⟨fu - 1, by omega⟩
      refine go 1 fu (cnt + 1) s1 ((!a) :: cs) rfl rfl (by show cs.length + 1 ≤ cs.length + 1 + 1; omega) ?_ (f.trans a2) a3 (by omega) (by omega) ?_
      · unfold dc; rw [if_neg (by decide), if_pos rfl, if_pos (by show 1 ≤ cs.length + 1; omega)]; rfl
      · rw [hold_it he (by omega) (by omega) a1]
    · obtain ⟨sg, r3⟩ := x
      have v1' : sg = 38 ∨ sg = 124 := v1
      have v2' : r3 = (0, 0, 0) := v2
      subst v2'
      have ncm : ¬ cmc sg = true := by unfold cmc; rw [decide_eq_true_eq]; omega
      have n33 : ¬ sg = 33 := by omega
      have hch : chr1 (sg, 0, 0, 0) = [sg] := by unfold chr1; rw [if_neg ncm]
      rw [hch] at Ca hpe hfu
      have h2 : 2 ≤ cs.length := by
        rcases Nat.lt_or_ge cs.length 2 with h9 | h9
        · have : dc (sg, 0, 0, 0) cs.length = none := by unfold dc; rw [if_neg ncm, if_neg n33, if_neg (by omega)]
          rw [this] at hd'; cases hd'
        · exact h9
      obtain ⟨b, a, cs, rfl⟩ : ∃ b a r, cs = b :: a :: r := by
        cases cs with
        | nil => exact absurd h2 (by decide)
        | cons b r =>
          cases r with
          | nil => have h9 : 2 ≤ 1 := h2; omega
          | cons a r => exact ⟨b, a, r, rfl⟩
      have hsz2 : base.length + (cs.length + 1 + 1) + (c.length + 1) ≤ 38 := hsz'
      obtain ⟨s1, a1, a2, a3⟩ := step_bin (F := F) (lg := io (rI (L k))) (st := cs.map b64 ++ base) (x := b64 a) (y := b64 b) R (by rw [hrl]; omega) (Ca.fr f) (Or.inr v1') (fun s => comb_B v1')
      have hl1 : [sg].length = 1 := rfl
      rw [hl1] at hpe hfu
      obtain ⟨fu, rfl⟩ : ∃ f', fu = f' + 1 := ⟨fu - 1, by omega⟩
      refine go 1 fu (cnt + 1) s1 ((if sg = 38 then a && b else a || b) :: cs) (by rw [hch]; rfl) (by unfold stC; rw [if_neg ncm, if_neg n33]) (by show cs.length + 1 ≤ cs.length + 1 + 1 + 1; omega) ?_ (f.trans a2) a3 (by omega) (by omega) ?_
      · unfold dc; rw [if_neg ncm, if_neg n33, if_pos (by show 2 ≤ cs.length + 1 + 1; omega)]; rfl
      · rw [hold_it he (by omega) (by omega) a1]
