/-! what a row of codes says -/
def b64 (b : Bool) : Int64 := if b = true then 1 else 0
def sgn (b v : Nat) : Int64 := if b = 1 then -(io v).toInt64 else (io v).toInt64
def cmpv (sg : Nat) (x y : Int64) : Bool := if sg = 60 then decide (x < y) else if sg = 62 then decide (y < x) else decide (x = y)
def stC (r : Rec) (x : CT) (st : List Bool) : List Bool := if cmc x.1 = true then cmpv x.1 (fld x.2.1 r).toInt64 (sgn x.2.2.2 x.2.2.1) :: st
  else if x.1 = 33 then (match st with | a :: q => (!a) :: q | [] => []) else (match st with | b :: a :: q => (if x.1 = 38 then a && b else a || b) :: q | _ => [])
def runC (r : Rec) (c : List CT) (st : List Bool) : List Bool := c.foldl (fun st x => stC r x st) st
def valC (r : Rec) (c : List CT) : Bool := (runC r c []).headD false
def chB (ch : Option (List CT)) (r : Rec) : Bool := match ch with
  | none => true
  | some c => valC r c
def aggv (e : List Rec) (k f : Nat) (ch : Option (List CT)) : Int64 := vag k ((e.filter (chB ch)).map (fld f))
def cmb (sg : Nat) (x y : Int64) : Int64 := if sg = 42 then x * y else if sg = 43 then x + y else if sg = 45 then x - y else if sg = 47 then (if y = 0 then 0 else x / y) else b64 (cmpv sg x y)
def stQ (e : List Rec) (x : QT) (st : List Int64) : List Int64 := if x.1 = 35 then (io x.2.1).toInt64 :: st else if agc x.1 = true then aggv e x.1 x.2.1 x.2.2 :: st
  else if x.1 = 126 then (match st with | a :: q => (-a) :: q | [] => []) else (match st with | b :: a :: q => cmb x.1 a b :: q | _ => [])
def runQ (e : List Rec) (c : List QT) (st : List Int64) : List Int64 := c.foldl (fun st x => stQ e x st) st
def valQ (e : List Rec) (c : List QT) : Int64 := (runQ e c []).headD 0
theorem runC_app {r : Rec} {a b : List CT} {st : List Bool} : runC r (a ++ b) st = runC r b (runC r a st) := List.foldl_append
theorem runQ_app {e : List Rec} {a b : List QT} {st : List Int64} : runQ e (a ++ b) st = runQ e b (runQ e a st) := List.foldl_append
theorem valC_of {r : Rec} {c : List CT} {b : Bool} (h : ∀ st, runC r c st = b :: st) : valC r c = b := by unfold valC; rw [h]; rfl
theorem valQ_of {e : List Rec} {c : List QT} {v : Int64} (h : ∀ st, runQ e c st = v :: st) : valQ e c = v := by unfold valQ; rw [h]; rfl
theorem i64_nle {x y : Int64} : (¬ x ≤ y) = (y < x) := by rw [Int64.lt_iff_toInt_lt, Int64.le_iff_toInt_le]; simp
theorem comb_Q {F sg : Nat} {s : St} {x y : Int64} (h : qop sg) : f_P_combined F s (io sg) x y = some (cmb sg x y, s) := by
  unfold cmb cmpv b64
  rcases h with rfl | rfl | rfl | rfl | rfl | rfl | rfl
  · simp (disch := omega) only [f_P_combined, Option.bind_some, Nat.reduceEqDiff, Nat.add_zero, Nat.zero_add, Nat.reduceLT, Nat.reduceLeDiff, Nat.reduceAdd, Nat.reduceSub, Nat.reduceMul, Nat.reduceDiv, Nat.lt_irrefl, Nat.not_lt_zero, Nat.zero_le, Nat.one_ne_zero, Nat.succ_ne_zero,  lt_def, i32_lit, reduceIte, P_isIn_eq, M_isIn_eq, M_goes_eq, or_false, false_or, or_true, true_or, and_true, true_and, and_false, false_and, not_true, not_false_eq_true, eq_self, if_true, if_false, not_or, not_and, Nat.not_lt, Nat.not_le, io_eq]
  · simp (disch := omega) only [f_P_combined, Option.bind_some, Nat.reduceEqDiff, Nat.add_zero, Nat.zero_add, Nat.reduceLT, Nat.reduceLeDiff, Nat.reduceAdd, Nat.reduceSub, Nat.reduceMul, Nat.reduceDiv, Nat.lt_irrefl, Nat.not_lt_zero, Nat.zero_le, Nat.one_ne_zero, Nat.succ_ne_zero,  lt_def, i32_lit, reduceIte, P_isIn_eq, M_isIn_eq, M_goes_eq, or_false, false_or, or_true, true_or, and_true, true_and, and_false, false_and, not_true, not_false_eq_true, eq_self, if_true, if_false, not_or, not_and, Nat.not_lt, Nat.not_le, io_eq]
  · simp (disch := omega) only [f_P_combined, Option.bind_some, Nat.reduceEqDiff, Nat.add_zero, Nat.zero_add, Nat.reduceLT, Nat.reduceLeDiff, Nat.reduceAdd, Nat.reduceSub, Nat.reduceMul, Nat.reduceDiv, Nat.lt_irrefl, Nat.not_lt_zero, Nat.zero_le, Nat.one_ne_zero, Nat.succ_ne_zero,  lt_def, i32_lit, reduceIte, P_isIn_eq, M_isIn_eq, M_goes_eq, or_false, false_or, or_true, true_or, and_true, true_and, and_false, false_and, not_true, not_false_eq_true, eq_self, if_true, if_false, not_or, not_and, Nat.not_lt, Nat.not_le, io_eq]
  · by_cases h0 : y = 0
    · simp (disch := omega) only [f_P_combined, Option.bind_some, Nat.reduceEqDiff, Nat.add_zero, Nat.zero_add, Nat.reduceLT, Nat.reduceLeDiff, Nat.reduceAdd, Nat.reduceSub, Nat.reduceMul, Nat.reduceDiv, Nat.lt_irrefl, Nat.not_lt_zero, Nat.zero_le, Nat.one_ne_zero, Nat.succ_ne_zero,  lt_def, i32_lit, reduceIte, P_isIn_eq, M_isIn_eq, M_goes_eq, or_false, false_or, or_true, true_or, and_true, true_and, and_false, false_and, not_true, not_false_eq_true, eq_self, if_true, if_false, not_or, not_and, Nat.not_lt, Nat.not_le, io_eq, h0]
    · simp (disch := omega) only [f_P_combined, Option.bind_some, Nat.reduceEqDiff, Nat.add_zero, Nat.zero_add, Nat.reduceLT, Nat.reduceLeDiff, Nat.reduceAdd, Nat.reduceSub, Nat.reduceMul, Nat.reduceDiv, Nat.lt_irrefl, Nat.not_lt_zero, Nat.zero_le, Nat.one_ne_zero, Nat.succ_ne_zero,  lt_def, i32_lit, reduceIte, P_isIn_eq, M_isIn_eq, M_goes_eq, or_false, false_or, or_true, true_or, and_true, true_and, and_false, false_and, not_true, not_false_eq_true, eq_self, if_true, if_false, not_or, not_and, Nat.not_lt, Nat.not_le, io_eq, h0]
  · by_cases h0 : y ≤ x
    · have h1 : ¬ x < y := by rw [← i64_nle]; exact fun h => h h0
      simp (disch := omega) only [f_P_combined, Option.bind_some, Nat.reduceEqDiff, Nat.add_zero, Nat.zero_add, Nat.reduceLT, Nat.reduceLeDiff, Nat.reduceAdd, Nat.reduceSub, Nat.reduceMul, Nat.reduceDiv, Nat.lt_irrefl, Nat.not_lt_zero, Nat.zero_le, Nat.one_ne_zero, Nat.succ_ne_zero,  lt_def, i32_lit, reduceIte, P_isIn_eq, M_isIn_eq, M_goes_eq, or_false, false_or, or_true, true_or, and_true, true_and, and_false, false_and, not_true, not_false_eq_true, eq_self, if_true, if_false, not_or, not_and, Nat.not_lt, Nat.not_le, io_eq, h0, h1, decide_false, Bool.false_eq_true]
    · have h1 : x < y := by rw [← i64_nle]; exact h0
      simp (disch := omega) only [f_P_combined, Option.bind_some, Nat.reduceEqDiff, Nat.add_zero, Nat.zero_add, Nat.reduceLT, Nat.reduceLeDiff, Nat.reduceAdd, Nat.reduceSub, Nat.reduceMul, Nat.reduceDiv, Nat.lt_irrefl, Nat.not_lt_zero, Nat.zero_le, Nat.one_ne_zero, Nat.succ_ne_zero,  lt_def, i32_lit, reduceIte, P_isIn_eq, M_isIn_eq, M_goes_eq, or_false, false_or, or_true, true_or, and_true, true_and, and_false, false_and, not_true, not_false_eq_true, eq_self, if_true, if_false, not_or, not_and, Nat.not_lt, Nat.not_le, io_eq, h0, h1, decide_true]
  · by_cases h0 : x = y
    · simp (disch := omega) only [f_P_combined, Option.bind_some, Nat.reduceEqDiff, Nat.add_zero, Nat.zero_add, Nat.reduceLT, Nat.reduceLeDiff, Nat.reduceAdd, Nat.reduceSub, Nat.reduceMul, Nat.reduceDiv, Nat.lt_irrefl, Nat.not_lt_zero, Nat.zero_le, Nat.one_ne_zero, Nat.succ_ne_zero,  lt_def, i32_lit, reduceIte, P_isIn_eq, M_isIn_eq, M_goes_eq, or_false, false_or, or_true, true_or, and_true, true_and, and_false, false_and, not_true, not_false_eq_true, eq_self, if_true, if_false, not_or, not_and, Nat.not_lt, Nat.not_le, io_eq, h0, decide_true]
    · simp (disch := omega) only [f_P_combined, Option.bind_some, Nat.reduceEqDiff, Nat.add_zero, Nat.zero_add, Nat.reduceLT, Nat.reduceLeDiff, Nat.reduceAdd, Nat.reduceSub, Nat.reduceMul, Nat.reduceDiv, Nat.lt_irrefl, Nat.not_lt_zero, Nat.zero_le, Nat.one_ne_zero, Nat.succ_ne_zero,  lt_def, i32_lit, reduceIte, P_isIn_eq, M_isIn_eq, M_goes_eq, or_false, false_or, or_true, true_or, and_true, true_and, and_false, false_and, not_true, not_false_eq_true, eq_self, if_true, if_false, not_or, not_and, Nat.not_lt, Nat.not_le, io_eq, h0, decide_false, Bool.false_eq_true]
  · by_cases h0 : x ≤ y
    · have h1 : ¬ y < x := by rw [← i64_nle]; exact fun h => h h0
      simp (disch := omega) only [f_P_combined, Option.bind_some, Nat.reduceEqDiff, Nat.add_zero, Nat.zero_add, Nat.reduceLT, Nat.reduceLeDiff, Nat.reduceAdd, Nat.reduceSub, Nat.reduceMul, Nat.reduceDiv, Nat.lt_irrefl, Nat.not_lt_zero, Nat.zero_le, Nat.one_ne_zero, Nat.succ_ne_zero,  lt_def, i32_lit, reduceIte, P_isIn_eq, M_isIn_eq, M_goes_eq, or_false, false_or, or_true, true_or, and_true, true_and, and_false, false_and, not_true, not_false_eq_true, eq_self, if_true, if_false, not_or, not_and, Nat.not_lt, Nat.not_le, io_eq, h0, h1, decide_false, Bool.false_eq_true]
    · have h1 : y < x := by rw [← i64_nle]; exact h0
      simp (disch := omega) only [f_P_combined, Option.bind_some, Nat.reduceEqDiff, Nat.add_zero, Nat.zero_add, Nat.reduceLT, Nat.reduceLeDiff, Nat.reduceAdd, Nat.reduceSub, Nat.reduceMul, Nat.reduceDiv, Nat.lt_irrefl, Nat.not_lt_zero, Nat.zero_le, Nat.one_ne_zero, Nat.succ_ne_zero,  lt_def, i32_lit, reduceIte, P_isIn_eq, M_isIn_eq, M_goes_eq, or_false, false_or, or_true, true_or, and_true, true_and, and_false, false_and, not_true, not_false_eq_true, eq_self, if_true, if_false, not_or, not_and, Nat.not_lt, Nat.not_le, io_eq, h0, h1, decide_true]
theorem comb_C {F sg : Nat} {s : St} {x y : Int64} (h : cmc sg = true) : f_P_combined F s (io sg) x y = some (b64 (cmpv sg x y), s) := by
  have h' : sg = 60 ∨ sg = 62 ∨ sg = 61 := of_decide_eq_true h
  have h2 : qop sg := by unfold qop; omega
  rw [comb_Q h2]
  unfold cmb
  rw [if_neg (by omega), if_neg (by omega), if_neg (by omega), if_neg (by omega)]
theorem b64_0 {b : Bool} : (b64 b = 0) = (b = false) := by cases b <;> simp [b64]
theorem comb_B {F sg : Nat} {s : St} {a b : Bool} (h : sg = 38 ∨ sg = 124) : f_P_combined F s (io sg) (b64 a) (b64 b) = some (b64 (if sg = 38 then a && b else a || b), s) := by
  rcases h with rfl | rfl <;> cases a <;> cases b <;> simp (disch := omega) only [f_P_combined, Option.bind_some, Nat.reduceEqDiff, Nat.add_zero, Nat.zero_add, Nat.reduceLT, Nat.reduceLeDiff, Nat.reduceAdd, Nat.reduceSub, Nat.reduceMul, Nat.reduceDiv, Nat.lt_irrefl, Nat.not_lt_zero, Nat.zero_le, Nat.one_ne_zero, Nat.succ_ne_zero,  lt_def, i32_lit, reduceIte, P_isIn_eq, M_isIn_eq, M_goes_eq, or_false, false_or, or_true, true_or, and_true, true_and, and_false, false_and, not_true, not_false_eq_true, eq_self, if_true, if_false, not_or, not_and, Nat.not_lt, Nat.not_le, io_eq, b64_0, Bool.true_eq_false, Bool.false_eq_true, Bool.and_true, Bool.and_false, Bool.or_true, Bool.or_false] <;> rfl
/-! the walker -/
theorem nd.dg {s : St} {q : Nat} {k n : Int32} {l r : Option Nat} (h : nd s q k n l r) : ∃ o, dgo s (some q) 3 = some (q, o) ∧ o.1 0 = k ∧ o.1 1 = n ∧ o.2.1 2 = l ∧ o.2.1 3 = r := by
  obtain ⟨-, o, h2, h3⟩ := h
  exact ⟨o, dgo_at h2, h3⟩
theorem WK_num {F fu q v dep : Nat} {s : St} {lg : Int32} (hd : dep ≤ 40) (h : nd s q (io 35) (io v) none none) : f_WK F (fu + 1) 0 s (some q) lg (io dep) = some ((io v).toInt64, s) := by
  obtain ⟨o, h1, h2, h3, -, -⟩ := h.dg
  show f_Walker_valueOf (f_WK F fu) F s (some q) lg (io dep) = _
  have hf := isField_eq (F := F) (s := s) (show 35 < 1000 by omega)
  have hg := isAgg_eq (F := F) (s := s) (show 35 < 1000 by omega)
  rw [if_neg (by decide)] at hf hg
  have hne : ¬ some q = none := by simp
  simp (disch := omega) only [f_Walker_valueOf, Option.bind_some, Nat.reduceEqDiff, Nat.add_zero, Nat.zero_add, Nat.reduceLT, Nat.reduceLeDiff, Nat.reduceAdd, Nat.reduceSub, Nat.reduceMul, Nat.reduceDiv, Nat.lt_irrefl, Nat.not_lt_zero, Nat.zero_le, Nat.one_ne_zero, Nat.succ_ne_zero,  lt_def, i32_lit, reduceIte, P_isIn_eq, M_isIn_eq, M_goes_eq, or_false, false_or, or_true, true_or, and_true, true_and, and_false, false_and, not_true, not_false_eq_true, eq_self, if_true, if_false, not_or, not_and, Nat.not_lt, Nat.not_le, hne, io_le, hd, h1, h2, h3, hf, hg, io_eq]
theorem WK_fld {F fu q f dep : Nat} {s : St} {lg : Int32} (hd : dep ≤ 40) (hf0 : fdc f = true) (h : nd s q (io f) (io 0) none none) : f_WK F (fu + 1) 0 s (some q) lg (io dep) = (f_Logs_fieldOf F s (io f) lg).bind (fun x => some (x.1.toInt64, x.2)) := by
  obtain ⟨o, h1, h2, h3, -, -⟩ := h.dg
  show f_Walker_valueOf (f_WK F fu) F s (some q) lg (io dep) = _
  have hlt : f < 1000 := by unfold fdc at hf0; have := of_decide_eq_true hf0; omega
  have hf := isField_eq (F := F) (s := s) hlt
  rw [if_pos hf0] at hf
  have hne : ¬ some q = none := by simp
  simp (disch := omega) only [f_Walker_valueOf, Option.bind_some, Nat.reduceEqDiff, Nat.add_zero, Nat.zero_add, Nat.reduceLT, Nat.reduceLeDiff, Nat.reduceAdd, Nat.reduceSub, Nat.reduceMul, Nat.reduceDiv, Nat.lt_irrefl, Nat.not_lt_zero, Nat.zero_le, Nat.one_ne_zero, Nat.succ_ne_zero,  lt_def, i32_lit, reduceIte, P_isIn_eq, M_isIn_eq, M_goes_eq, or_false, false_or, or_true, true_or, and_true, true_and, and_false, false_and, not_true, not_false_eq_true, eq_self, if_true, if_false, not_or, not_and, Nat.not_lt, Nat.not_le, hne, io_le, hd, h1, h2, hf, io_eq]
theorem WK_neg {F fu q l dep : Nat} {s : St} {lg : Int32} (hd : dep ≤ 40) (h : nd s q (io 126) (io 0) (some l) none) : f_WK F (fu + 1) 0 s (some q) lg (io dep) = (f_WK F fu 0 s (some l) lg (io (dep + 1))).bind (fun x => some (-x.1, x.2)) := by
  obtain ⟨o, h1, h2, h3, h4, -⟩ := h.dg
  show f_Walker_valueOf (f_WK F fu) F s (some q) lg (io dep) = _
  have hf := isField_eq (F := F) (s := s) (show 126 < 1000 by omega)
  have hg := isAgg_eq (F := F) (s := s) (show 126 < 1000 by omega)
  rw [if_neg (by decide)] at hf hg
  have hne : ¬ some q = none := by simp
  simp (disch := omega) only [f_Walker_valueOf, Option.bind_some, Nat.reduceEqDiff, Nat.add_zero, Nat.zero_add, Nat.reduceLT, Nat.reduceLeDiff, Nat.reduceAdd, Nat.reduceSub, Nat.reduceMul, Nat.reduceDiv, Nat.lt_irrefl, Nat.not_lt_zero, Nat.zero_le, Nat.one_ne_zero, Nat.succ_ne_zero,  lt_def, i32_lit, reduceIte, P_isIn_eq, M_isIn_eq, M_goes_eq, or_false, false_or, or_true, true_or, and_true, true_and, and_false, false_and, not_true, not_false_eq_true, eq_self, if_true, if_false, not_or, not_and, Nat.not_lt, Nat.not_le, hne, io_le, hd, h1, h2, h4, hf, hg, io_eq, io_add]
theorem WK_not {F fu q l dep : Nat} {s : St} {lg : Int32} (hd : dep ≤ 40) (h : nd s q (io 33) (io 0) (some l) none) : f_WK F (fu + 1) 0 s (some q) lg (io dep) = (f_WK F fu 0 s (some l) lg (io (dep + 1))).bind (fun x => if x.1 = 0 then some (1, x.2) else some (0, x.2)) := by
  obtain ⟨o, h1, h2, h3, h4, -⟩ := h.dg
  show f_Walker_valueOf (f_WK F fu) F s (some q) lg (io dep) = _
  have hf := isField_eq (F := F) (s := s) (show 33 < 1000 by omega)
  have hg := isAgg_eq (F := F) (s := s) (show 33 < 1000 by omega)
  rw [if_neg (by decide)] at hf hg
  have hne : ¬ some q = none := by simp
  simp (disch := omega) only [f_Walker_valueOf, Option.bind_some, Nat.reduceEqDiff, Nat.add_zero, Nat.zero_add, Nat.reduceLT, Nat.reduceLeDiff, Nat.reduceAdd, Nat.reduceSub, Nat.reduceMul, Nat.reduceDiv, Nat.lt_irrefl, Nat.not_lt_zero, Nat.zero_le, Nat.one_ne_zero, Nat.succ_ne_zero,  lt_def, i32_lit, reduceIte, P_isIn_eq, M_isIn_eq, M_goes_eq, or_false, false_or, or_true, true_or, and_true, true_and, and_false, false_and, not_true, not_false_eq_true, eq_self, if_true, if_false, not_or, not_and, Nat.not_lt, Nat.not_le, hne, io_le, hd, h1, h2, h4, hf, hg, io_eq, io_add]
theorem WK_bin {F fu q l r sg dep : Nat} {s s1 s2 : St} {lg : Int32} {x y : Int64} (hd : dep ≤ 40) (hs : qop sg ∨ sg = 38 ∨ sg = 124) (h : nd s q (io sg) (io 0) (some l) (some r)) (h1' : nd s1 q (io sg) (io 0) (some l) (some r)) (e1 : f_WK F fu 0 s (some l) lg (io (dep + 1)) = some (x, s1)) (e2 : f_WK F fu 0 s1 (some r) lg (io (dep + 1)) = some (y, s2)) : f_WK F (fu + 1) 0 s (some q) lg (io dep) = (f_P_combined F s2 (io sg) x y).bind (fun z => some (z.1, z.2)) := by
  obtain ⟨o, h1, h2, h3, h4, h5⟩ := h.dg
  obtain ⟨p, g1, g2, g3, g4, g5⟩ := h1'.dg
  show f_Walker_valueOf (f_WK F fu) F s (some q) lg (io dep) = _
  have hlt : sg < 1000 := by unfold qop at hs; omega
  have hf := isField_eq (F := F) (s := s) hlt
  have hg := isAgg_eq (F := F) (s := s) hlt
  rw [if_neg (by unfold fdc; rw [decide_eq_true_eq]; unfold qop at hs; omega)] at hf
  rw [if_neg (by unfold agc; rw [decide_eq_true_eq]; unfold qop at hs; omega)] at hg
  have hne : ¬ some q = none := by simp
  have n1 : ¬ sg = 33 := by unfold qop at hs; omega
  have n2 : ¬ sg = 35 := by unfold qop at hs; omega
  have n3 : ¬ sg = 126 := by unfold qop at hs; omega
  simp (disch := omega) only [f_Walker_valueOf, Option.bind_some, Nat.reduceEqDiff, Nat.add_zero, Nat.zero_add, Nat.reduceLT, Nat.reduceLeDiff, Nat.reduceAdd, Nat.reduceSub, Nat.reduceMul, Nat.reduceDiv, Nat.lt_irrefl, Nat.not_lt_zero, Nat.zero_le, Nat.one_ne_zero, Nat.succ_ne_zero,  lt_def, i32_lit, reduceIte, P_isIn_eq, M_isIn_eq, M_goes_eq, or_false, false_or, or_true, true_or, and_true, true_and, and_false, false_and, not_true, not_false_eq_true, eq_self, if_true, if_false, not_or, not_and, Nat.not_lt, Nat.not_le, hne, io_le, hd, h1, h2, h4, hf, hg, io_eq, n1, n2, n3, io_add, e1, g1, g5, e2]
/-- a choice, by the walker -/
theorem WKC {F h m k : Nat} {s : St} {L : Nat → LR} (C : LGc s L m) (G : LGg L m h) (hh : h ≤ 1000) (hk : k < m) : ∀ d q c dep fu, TC s d q c → dep + d ≤ 41 → d ≤ fu → ∃ b, f_WK F fu 0 s (some q) (io (rI (L k))) (io dep) = some (b64 b, s) ∧ ∀ st, runC (rec1 (L k)) c st = b :: st := by
  intro d
  induction d with
  | zero => intro q c dep fu h; exact h.elim
  | succ d ih =>
    intro q c dep fu h hdep hfu
    obtain ⟨fu, rfl⟩ : ∃ f', fu = f' + 1 := ⟨fu - 1, by omega⟩
    rcases h with ⟨sg, f, v, b, l, r, rfl, h2, h3, h4, h5, h6, h7, h8⟩ | ⟨l, c1, rfl, h2, h3⟩ | ⟨sg, l, r, c1, c2, h1, rfl, h3, h4, h5⟩
    · have hsg : qop sg := by have : sg = 60 ∨ sg = 62 ∨ sg = 61 := of_decide_eq_true h3; unfold qop; omega
      have hf2 : f < 2147483648 := by unfold fdc at h4; have := of_decide_eq_true h4; omega
      obtain ⟨fu, rfl⟩ : ∃ f', fu = f' + 1 := ⟨fu - 1, by omega⟩
      have e1 : f_WK F (fu + 1) 0 s (some l) (io (rI (L k))) (io (dep + 1)) = some ((fld f (rec1 (L k))).toInt64, s) := by
        rw [WK_fld (by omega) h4 h7, fieldOf_eq C G hh hk hf2]; rfl
      have e2 : f_WK F (fu + 1) 0 s (some r) (io (rI (L k))) (io (dep + 1)) = some (sgn b v, s) := by
        rcases h8 with ⟨rfl, h9⟩ | ⟨rfl, r2, h9, h10⟩
        · rw [WK_num (by omega) h9]; rfl
        · obtain ⟨fu, rfl⟩ : ∃ f', fu = f' + 1 := ⟨fu - 1, by omega⟩
          rw [WK_neg (by omega) h9, WK_num (by omega) h10]; rfl
      refine ⟨cmpv sg (fld f (rec1 (L k))).toInt64 (sgn b v), ?_, fun st => ?_⟩
      · rw [WK_bin (by omega) (Or.inl hsg) h6 h6 e1 e2, comb_C h3]; rfl
      · show stC _ _ st = _
        unfold stC
        rw [if_pos h3]
    · obtain ⟨b, e1, e2⟩ := ih l c1 (dep + 1) fu h3 (by omega) (by omega)
      refine ⟨!b, ?_, fun st => ?_⟩
      · rw [WK_not (by omega) h2, e1, Option.bind_some]
        cases b <;> rfl
      · rw [runC_app, e2]; rfl
    · obtain ⟨x, e1, e2⟩ := ih l c1 (dep + 1) fu h4 (by omega) (by omega)
      obtain ⟨y, e3, e4⟩ := ih r c2 (dep + 1) fu h5 (by omega) (by omega)
      refine ⟨if sg = 38 then x && y else x || y, ?_, fun st => ?_⟩
      · rw [WK_bin (by omega) (Or.inr h1) h3 h3 e1 e3, comb_B h1]; rfl
      · rw [runC_app, runC_app, e2, e4]
        rcases h1 with rfl | rfl <;> rfl
theorem fld_ok {L : Nat → LR} {m h k f : Nat} (G : LGg L m h) (hk : k < m) : vok (fld f (rec1 (L k))) := by
  obtain ⟨g1, g2, g3, g4, g5, g6, g7⟩ := G.2.1 k hk
  unfold fld rec1
  dsimp only
  by_cases e1 : f = 104
  · rw [if_pos e1]; exact vok_io (by omega)
  · rw [if_neg e1]
    by_cases e2 : f = 108
    · rw [if_pos e2]; exact vok_io (by omega)
    · rw [if_neg e2]
      by_cases e3 : f = 112
      · rw [if_pos e3]; exact vok_io (by omega)
      · rw [if_neg e3]
        by_cases e4 : f = 118
        · rw [if_pos e4]; exact ⟨g3, g4⟩
        · rw [if_neg e4]; exact vok_io (by omega)
/-! the logs that a question sees -/
def ev (L : Nat → LR) (pk : List Nat) : List Rec := pk.map (fun k => rec1 (L k))
def LW (s : St) (L : Nat → LR) (m h : Nat) (pk : List Nat) : Prop := LGc s L m ∧ LGg L m h ∧ h ≤ 1000 ∧ PK s L pk ∧ pk.length ≤ 100 ∧ ∀ k ∈ pk, k < m
def WFw (s s' : St) : Prop := Fr [1985, 1987, 1988, 1989] [32, 33] s s' ∧ gJ s' = gJ s
theorem WFw.rf {s : St} : WFw s s := ⟨Fr.rf, rfl⟩
theorem WFw.trans {s s1 s2 : St} (h : WFw s s1) (h2 : WFw s1 s2) : WFw s s2 := ⟨h.1.trans h2.1, h2.2.trans h.2⟩
theorem Fr.nm {eI eA : List Nat} {s s' : St} (f : Fr eI eA s s') : NM s s' := ⟨f.2.2.2.2, fun q o _ hd => by rw [f.2.2.2.1]; exact hd⟩
theorem PK.fr {eI eA : List Nat} {s s' : St} {L : Nat → LR} {l : List Nat} (H : PK s L l) (f : Fr eI eA s s') (d1 : 201 ∉ eI := by decide) (d2 : 11 ∉ eA := by decide) : PK s' L l := by
  unfold PK
  rw [f.gi 201 d1, f.ga 11 d2]
  exact H
theorem LW.fr {eI eA : List Nat} {s s' : St} {L : Nat → LR} {m h : Nat} {pk : List Nat} (H : LW s L m h pk) (f : Fr eI eA s s') (d1 : 200 ∉ eI := by decide) (d : ∀ k ∈ [4, 5, 6, 7, 8, 9, 10], k ∉ eA := by decide) (d3 : 201 ∉ eI := by decide) (d4 : 11 ∉ eA := by decide) : LW s' L m h pk :=
  ⟨H.1.fr f d1 d, H.2.1, H.2.2.1, H.2.2.2.1.fr f d3 d4, H.2.2.2.2⟩
theorem ev_snoc {L : Nat → LR} {pk : List Nat} {i : Nat} (hi : i < pk.length) {p : Rec → Bool} {f : Rec → Int32} : (((ev L pk).take (i + 1)).filter p).map f = (((ev L pk).take i).filter p).map f ++ (if p (rec1 (L pk[i])) = true then [f (rec1 (L pk[i]))] else []) := by
  have hl : i < (ev L pk).length := by unfold ev; rw [List.length_map]; exact hi
  have e : (ev L pk)[i] = rec1 (L pk[i]) := by simp only [ev, List.getElem_map]
  rw [List.take_succ_eq_append_getElem hl, List.filter_append, List.map_append, e]
  congr 1
  by_cases h : p (rec1 (L pk[i])) = true
  · rw [if_pos h, List.filter_cons_of_pos h]; rfl
  · rw [if_neg h, List.filter_cons_of_neg h]; rfl
theorem fil_len {L : Nat → LR} {pk : List Nat} {i : Nat} {p : Rec → Bool} {f : Rec → Int32} : ((((ev L pk).take i).filter p).map f).length ≤ i := by
  rw [List.length_map]
  exact Nat.le_trans (List.length_filter_le _ _) (by rw [List.length_take]; exact Nat.min_le_left _ _)
theorem gath_loop {F h m k f q dep fu : Nat} (hF : 5000 ≤ F) {s0 : St} {L : Nat → LR} {pk : List Nat} {l r : Option Nat} {ch : Option (List CT)} {d : Nat} (W : LW s0 L m h pk) (hk : agc k = true) (hq : nd s0 q (io k) (io 0) l r)
    (hl : (k = 110 ∧ f = 0 ∧ l = none) ∨ (k ≠ 110 ∧ fdc f = true ∧ ∃ l', l = some l' ∧ nd s0 l' (io f) (io 0) none none)) (hr : (ch = none ∧ r = none) ∨ (∃ cc r', ch = some cc ∧ r = some r' ∧ TC s0 d r' cc)) (hd : dep + 1 + d ≤ 41) (hfu : d ≤ fu) :
    ∀ j n i s, i + j = pk.length → j < n → WFw s0 s → TSw s ((((ev L pk).take i).filter (chB ch)).map (fld f)) → ∃ s', f_Walker_gathered_b10 (f_WK F fu) F n s (some q) (io dep) (io i) = some (aggv (ev L pk) k f ch, s') ∧ WFw s0 s' ∧ ∃ vs, TLw s' vs := by
  have hkl : k < 2147483648 := by unfold agc at hk; have := of_decide_eq_true hk; omega
  intro j
  induction j with
  | zero =>
    intro n i s hi hn hf T
    obtain ⟨n, rfl⟩ : ∃ n', n = n' + 1 := ⟨n - 1, by omega⟩
    have hi' : i = pk.length := by omega
    subst hi'
    have W' := W.fr hf.1
    have e1 := W'.2.2.2.1.1
    have hpl := W.2.2.2.2.1
    obtain ⟨o, h1, h2, h3, h4, h5⟩ := (hq.nm hf.1.nm).dg
    rw [List.take_of_length_le (by unfold ev; rw [List.length_map]; exact Nat.le_refl _)] at T
    have hres := result_eqw (F := F) (k := k) hF hkl T
    refine ⟨s, ?_, hf, _, T.1⟩
    simp (disch := omega) only [f_Walker_gathered_b10, Option.bind_some, Nat.reduceEqDiff, Nat.add_zero, Nat.zero_add, Nat.reduceLT, Nat.reduceLeDiff, Nat.reduceAdd, Nat.reduceSub, Nat.reduceMul, Nat.reduceDiv, Nat.lt_irrefl, Nat.not_lt_zero, Nat.zero_le, Nat.one_ne_zero, Nat.succ_ne_zero,  lt_def, i32_lit, reduceIte, P_isIn_eq, M_isIn_eq, M_goes_eq, or_false, false_or, or_true, true_or, and_true, true_and, and_false, false_and, not_true, not_false_eq_true, eq_self, if_true, if_false, not_or, not_and, Nat.not_lt, Nat.not_le, e1, io_le, Nat.le_refl, h1, h2, hres]
    rfl
  | succ j ih =>
    intro n i s hi hn hf T
    obtain ⟨n, rfl⟩ : ∃ n', n = n' + 1 := ⟨n - 1, by omega⟩
    have W' := W.fr hf.1
    have e1 := W'.2.2.2.1.1
    have hpl := W.2.2.2.2.1
    have hlt : i < pk.length := by omega
    have n1 : ¬ pk.length ≤ i := by omega
    have n2 : ¬ 100 ≤ i := by omega
    have e11 := W'.2.2.2.1.2 i hlt
    have hkm : pk[i] < m := W.2.2.2.2.2 _ (List.getElem_mem hlt)
    obtain ⟨o, h1, h2, h3, h4, h5⟩ := (hq.nm hf.1.nm).dg
    have hfl := fil_len (L := L) (pk := pk) (i := i) (p := chB ch) (f := fld f)
    -- the value comes in
    have key : chB ch (rec1 (L pk[i])) = true → ∃ s', f_Walker_gathered_b64 (f_WK F fu) F (f_Walker_gathered_b10 (f_WK F fu) F n) s (some q) (io dep) (io i) (io (rI (L pk[i]))) = some (aggv (ev L pk) k f ch, s') ∧ WFw s0 s' ∧ ∃ vs, TLw s' vs := by
      intro hc
      obtain ⟨s1, a1, a2, a3, a4⟩ := add_eqw (F := F) T (fld_ok (f := f) W.2.1 hkm) (by omega)
      have hf1 : WFw s0 s1 := hf.trans ⟨a3, a4⟩
      obtain ⟨s2, b1, b2, b3⟩ := ih n (i + 1) s1 (by omega) (by omega) hf1 (by rw [ev_snoc hlt, if_pos hc]; exact a2)
      refine ⟨s2, ?_, b2, b3⟩
      rcases hl with ⟨x1, x2, x3⟩ | ⟨x1, x2, l', x3, x4⟩
      · subst x3
        have e0 : fld f (rec1 (L pk[i])) = io 0 := by rw [x2]; rfl
        rw [e0] at a1
        simp (disch := omega) only [f_Walker_gathered_b64, Option.bind_some, Nat.reduceEqDiff, Nat.add_zero, Nat.zero_add, Nat.reduceLT, Nat.reduceLeDiff, Nat.reduceAdd, Nat.reduceSub, Nat.reduceMul, Nat.reduceDiv, Nat.lt_irrefl, Nat.not_lt_zero, Nat.zero_le, Nat.one_ne_zero, Nat.succ_ne_zero,  lt_def, i32_lit, reduceIte, P_isIn_eq, M_isIn_eq, M_goes_eq, or_false, false_or, or_true, true_or, and_true, true_and, and_false, false_and, not_true, not_false_eq_true, eq_self, if_true, if_false, not_or, not_and, Nat.not_lt, Nat.not_le, h1, h4, a1, io_add]
        exact b1
      · subst x3
        obtain ⟨p, g1, g2, g3, g4, g5⟩ := (x4.nm hf.1.nm).dg
        have hf2 : f < 2147483648 := by unfold fdc at x2; have := of_decide_eq_true x2; omega
        have hfo := fieldOf_eq (F := F) (f := f) W'.1 W'.2.1 W'.2.2.1 hkm hf2
        have hne : ¬ some l' = none := by simp
        simp (disch := omega) only [f_Walker_gathered_b64, Option.bind_some, Nat.reduceEqDiff, Nat.add_zero, Nat.zero_add, Nat.reduceLT, Nat.reduceLeDiff, Nat.reduceAdd, Nat.reduceSub, Nat.reduceMul, Nat.reduceDiv, Nat.lt_irrefl, Nat.not_lt_zero, Nat.zero_le, Nat.one_ne_zero, Nat.succ_ne_zero,  lt_def, i32_lit, reduceIte, P_isIn_eq, M_isIn_eq, M_goes_eq, or_false, false_or, or_true, true_or, and_true, true_and, and_false, false_and, not_true, not_false_eq_true, eq_self, if_true, if_false, not_or, not_and, Nat.not_lt, Nat.not_le, h1, h4, hne, g1, g2, hfo, a1, io_add]
        exact b1
    rcases hr with ⟨x1, x2⟩ | ⟨cc, r', x1, x2, x3⟩
    · subst x1; subst x2
      obtain ⟨s', c1, c2⟩ := key rfl
      refine ⟨s', ?_, c2⟩
      simp (disch := omega) only [f_Walker_gathered_b10, Option.bind_some, Nat.reduceEqDiff, Nat.add_zero, Nat.zero_add, Nat.reduceLT, Nat.reduceLeDiff, Nat.reduceAdd, Nat.reduceSub, Nat.reduceMul, Nat.reduceDiv, Nat.lt_irrefl, Nat.not_lt_zero, Nat.zero_le, Nat.one_ne_zero, Nat.succ_ne_zero,  lt_def, i32_lit, reduceIte, P_isIn_eq, M_isIn_eq, M_goes_eq, or_false, false_or, or_true, true_or, and_true, true_and, and_false, false_and, not_true, not_false_eq_true, eq_self, if_true, if_false, not_or, not_and, Nat.not_lt, Nat.not_le, e1, io_le, n1, n2, ix_io, h1, h5, e11]
      exact c1
    · subst x1; subst x2
      have hne : ¬ some r' = none := by simp
      obtain ⟨b, y1, y2⟩ := WKC (F := F) W'.1 W'.2.1 W'.2.2.1 hkm d r' cc (dep + 1) fu (TC.nm hf.1.nm _ _ _ x3) (by omega) hfu
      have hb : chB (some cc) (rec1 (L pk[i])) = b := valC_of y2
      cases b with
      | true =>
        obtain ⟨s', c1, c2⟩ := key hb
        refine ⟨s', ?_, c2⟩
        have h10 : ¬ b64 true = 0 := by rw [b64_0]; decide
        simp (disch := omega) only [f_Walker_gathered_b10, Option.bind_some, Nat.reduceEqDiff, Nat.add_zero, Nat.zero_add, Nat.reduceLT, Nat.reduceLeDiff, Nat.reduceAdd, Nat.reduceSub, Nat.reduceMul, Nat.reduceDiv, Nat.lt_irrefl, Nat.not_lt_zero, Nat.zero_le, Nat.one_ne_zero, Nat.succ_ne_zero,  lt_def, i32_lit, reduceIte, P_isIn_eq, M_isIn_eq, M_goes_eq, or_false, false_or, or_true, true_or, and_true, true_and, and_false, false_and, not_true, not_false_eq_true, eq_self, if_true, if_false, not_or, not_and, Nat.not_lt, Nat.not_le, e1, io_le, n1, n2, ix_io, h1, h5, hne, e11, io_add, y1, h10]
        exact c1
      | false =>
        obtain ⟨s2, b1, b2, b3⟩ := ih n (i + 1) s (by omega) (by omega) hf (by rw [ev_snoc hlt, if_neg (by rw [hb]; decide), List.append_nil]; exact T)
        refine ⟨s2, ?_, b2, b3⟩
        have h10 : b64 false = 0 := rfl
        simp (disch := omega) only [f_Walker_gathered_b10, Option.bind_some, Nat.reduceEqDiff, Nat.add_zero, Nat.zero_add, Nat.reduceLT, Nat.reduceLeDiff, Nat.reduceAdd, Nat.reduceSub, Nat.reduceMul, Nat.reduceDiv, Nat.lt_irrefl, Nat.not_lt_zero, Nat.zero_le, Nat.one_ne_zero, Nat.succ_ne_zero,  lt_def, i32_lit, reduceIte, P_isIn_eq, M_isIn_eq, M_goes_eq, or_false, false_or, or_true, true_or, and_true, true_and, and_false, false_and, not_true, not_false_eq_true, eq_self, if_true, if_false, not_or, not_and, Nat.not_lt, Nat.not_le, e1, io_le, n1, n2, ix_io, h1, h5, hne, e11, io_add, y1, h10]
        exact b1
theorem WKQ {F h m : Nat} (hF : 5000 ≤ F) {L : Nat → LR} {pk : List Nat} : ∀ d q c dep fu s, TQ s d q c → dep + d ≤ 41 → d + 2 ≤ fu → LW s L m h pk → (∃ vs, TLw s vs) → ∃ v s', f_WK F fu 0 s (some q) (-io 1) (io dep) = some (v, s') ∧ WFw s s' ∧ (∃ vs, TLw s' vs) ∧ ∀ st, runQ (ev L pk) c st = v :: st := by
  intro d
  induction d with
  | zero => intro q c dep fu s h; exact h.elim
  | succ d ih =>
    intro q c dep fu s h hdep hfu W TT
    obtain ⟨fu, rfl⟩ : ∃ f', fu = f' + 1 := ⟨fu - 1, by omega⟩
    rcases h with ⟨v, rfl, h2, h3⟩ | ⟨l, c1, rfl, h2, h3⟩ | ⟨sg, l, r, c1, c2, h1, rfl, h3, h4, h5⟩ | ⟨k, f, ch, l, r, rfl, h2, h3, h4, h5⟩
    · exact ⟨_, s, WK_num (by omega) h3, WFw.rf, TT, fun st => rfl⟩
    · obtain ⟨v, s1, e1, e2, e3, e4⟩ := ih l c1 (dep + 1) fu s h3 (by omega) (by omega) W TT
      refine ⟨-v, s1, ?_, e2, e3, fun st => ?_⟩
      · rw [WK_neg (by omega) h2, e1]; rfl
      · rw [runQ_app, e4]; rfl
    · obtain ⟨x, s1, e1, e2, e3, e4⟩ := ih l c1 (dep + 1) fu s h4 (by omega) (by omega) W TT
      obtain ⟨y, s2, e5, e6, e7, e8⟩ := ih r c2 (dep + 1) fu s1 (TQ.nm e2.1.nm _ _ _ h5) (by omega) (by omega) (W.fr e2.1) e3
      refine ⟨cmb sg x y, s2, ?_, e2.trans e6, e7, fun st => ?_⟩
      · rw [WK_bin (by omega) (Or.inl h1) h3 (h3.nm e2.1.nm) e1 e5, comb_Q h1]; rfl
      · rw [runQ_app, runQ_app, e4, e8]
        show stQ _ (tkQ sg) (y :: x :: st) = _
        unfold stQ tkQ
        rw [if_neg (by unfold qop at h1; show ¬ sg = 35; omega), if_neg (by unfold agc; rw [decide_eq_true_eq]; unfold qop at h1; show ¬ (sg = 100 ∨ _); omega), if_neg (by unfold qop at h1; show ¬ sg = 126; omega)]
    · obtain ⟨vs, T⟩ := TT
      obtain ⟨fu, rfl⟩ : ∃ f', fu = f' + 1 := ⟨fu - 1, by omega⟩
      obtain ⟨s1, a1, a2, a3, a4⟩ := clear_eqw (F := F) hF T
      have wf : WFw s s1 := ⟨a3.wide (by decide) (by decide), a4⟩
      have hpl := W.2.2.2.2.1
      obtain ⟨s2, b1, b2, b3⟩ := gath_loop (F := F) (fu := fu) (dep := dep) (d := d) hF (W.fr wf.1) h2 (h3.nm wf.1.nm) (h4.imp id (fun ⟨x1, x2, l', x3, x4⟩ => ⟨x1, x2, l', x3, x4.nm wf.1.nm⟩)) (h5.imp id (fun ⟨cc, r', x1, x2, x3⟩ => ⟨cc, r', x1, x2, TC.nm wf.1.nm _ _ _ x3⟩)) (by omega) (by omega) pk.length F 0 s1 (by omega) (by omega) WFw.rf a2
      refine ⟨aggv (ev L pk) k f ch, s2, ?_, wf.trans b2, b3, fun st => ?_⟩
      · obtain ⟨o, g1, g2, g3, g4, g5⟩ := h3.dg
        show f_Walker_valueOf (f_WK F (fu + 1)) F s (some q) (-io 1) (io dep) = _
        have hlt : k < 1000 := by unfold agc at h2; have := of_decide_eq_true h2; omega
        have hf := isField_eq (F := F) (s := s) hlt
        have hg := isAgg_eq (F := F) (s := s) hlt
        rw [if_neg (by unfold fdc; unfold agc at h2; rw [decide_eq_true_eq] at *; omega)] at hf
        rw [if_pos h2] at hg
        have hne : ¬ some q = none := by simp
        have hd40 : dep ≤ 40 := by omega
        have e1 : f_WK F (fu + 1) 1 s (some q) (io dep) (io 0) = some (aggv (ev L pk) k f ch, s2) := by
          show f_Walker_gathered (f_WK F fu) F s (some q) (io dep) = _
          simp (disch := omega) only [f_Walker_gathered, Option.bind_some, Nat.reduceEqDiff, Nat.add_zero, Nat.zero_add, Nat.reduceLT, Nat.reduceLeDiff, Nat.reduceAdd, Nat.reduceSub, Nat.reduceMul, Nat.reduceDiv, Nat.lt_irrefl, Nat.not_lt_zero, Nat.zero_le, Nat.one_ne_zero, Nat.succ_ne_zero,  lt_def, i32_lit, reduceIte, P_isIn_eq, M_isIn_eq, M_goes_eq, or_false, false_or, or_true, true_or, and_true, true_and, and_false, false_and, not_true, not_false_eq_true, eq_self, if_true, if_false, not_or, not_and, Nat.not_lt, Nat.not_le, a1]
          exact b1
        simp (disch := omega) only [f_Walker_valueOf, Option.bind_some, Nat.reduceEqDiff, Nat.add_zero, Nat.zero_add, Nat.reduceLT, Nat.reduceLeDiff, Nat.reduceAdd, Nat.reduceSub, Nat.reduceMul, Nat.reduceDiv, Nat.lt_irrefl, Nat.not_lt_zero, Nat.zero_le, Nat.one_ne_zero, Nat.succ_ne_zero,  lt_def, i32_lit, reduceIte, P_isIn_eq, M_isIn_eq, M_goes_eq, or_false, false_or, or_true, true_or, and_true, true_and, and_false, false_and, not_true, not_false_eq_true, eq_self, if_true, if_false, not_or, not_and, Nat.not_lt, Nat.not_le, hne, io_le, hd40, g1, g2, hf, hg, io_eq, e1]
      · show stQ _ (k, f, ch) st = _
        unfold stQ
        rw [if_neg (by unfold agc at h2; have := of_decide_eq_true h2; show ¬ k = 35; omega), if_pos h2]
theorem walk_eq {F h m n q : Nat} (hF : 5000 ≤ F) {L : Nat → LR} {pk : List Nat} {s : St} {c : List QT} (hn : n ≤ 40) (H : TQ s n q c) (W : LW s L m h pk) (TT : ∃ vs, TLw s vs) : ∃ s', f_Walker_run F s (some q) = some (valQ (ev L pk) c, s') ∧ WFw s s' ∧ ∃ vs, TLw s' vs := by
  obtain ⟨v, s', e1, e2, e3, e4⟩ := WKQ (F := F) hF n q c 0 100 s H (by omega) (by omega) W TT
  refine ⟨s', ?_, e2, e3⟩
  rw [valQ_of e4]
  simp (disch := omega) only [f_Walker_run, f_Walker_valueOf_t, Option.bind_some, Nat.reduceEqDiff, Nat.add_zero, Nat.zero_add, Nat.reduceLT, Nat.reduceLeDiff, Nat.reduceAdd, Nat.reduceSub, Nat.reduceMul, Nat.reduceDiv, Nat.lt_irrefl, Nat.not_lt_zero, Nat.zero_le, Nat.one_ne_zero, Nat.succ_ne_zero,  lt_def, i32_lit, reduceIte, P_isIn_eq, M_isIn_eq, M_goes_eq, or_false, false_or, or_true, true_or, and_true, true_and, and_false, false_and, not_true, not_false_eq_true, eq_self, if_true, if_false, not_or, not_and, Nat.not_lt, Nat.not_le, e1]
