/-! what the class does, purely (out of the rows of the claim whole) -/
/-! the model's machine: its piles and rows -/
def stk (g : Nat → Int32) : List Nat → Prop
  | [] => True
  | x :: w => g w.length = io x ∧ stk g w
theorem stk_ext {g g' : Nat → Int32} : ∀ w : List Nat, (∀ i, i < w.length → g' i = g i) → stk g w → stk g' w := by
  intro w
  induction w with
  | nil => intro _ _; trivial
  | cons x w ih =>
    intro h hs
    exact ⟨by rw [h _ (by show w.length < w.length + 1; omega)]; exact hs.1, ih (fun i hi => h i (by show i < w.length + 1; omega)) hs.2⟩
abbrev PR : Type := Nat × Nat
def row (s : St) (k1 k2 b : Nat) (l : List PR) : Prop := ∀ i (h : i < l.length), gA s k1 (b + i) = io l[i].1 ∧ gA s k2 (b + i) = io l[i].2
/-! the class turns a text into codes: its pile and row -/
def rkP (x : Nat) : Nat := if x = 124 then 1 else if x = 38 then 2 else if x = 33 then 3 else if x = 60 ∨ x = 62 ∨ x = 61 then 4 else if x = 43 ∨ x = 45 then 5 else if x = 42 ∨ x = 47 then 6 else if x = 126 then 7 else 0
theorem rkP_le (x : Nat) : rkP x ≤ 7 := by unfold rkP; repeat (first | omega | split)
theorem rankP_eq {F x : Nat} {s : St} (hx : x < 1000) : f_Coder_rankOf F s (io x) = some (io (rkP x), s) := by
  unfold rkP
  by_cases h1 : x = 33
  · subst h1; simp (disch := omega) only [f_Coder_rankOf, Option.bind_some, Nat.reduceEqDiff, Nat.add_zero, Nat.zero_add, Nat.reduceLT, Nat.reduceLeDiff, Nat.reduceAdd, Nat.reduceSub, Nat.reduceMul, Nat.reduceDiv, Nat.lt_irrefl, Nat.not_lt_zero, Nat.zero_le, Nat.one_ne_zero, Nat.succ_ne_zero,  lt_def, i32_lit, reduceIte, P_isIn_eq, or_false, false_or, or_true, true_or, and_true, true_and, and_false, false_and, not_true, not_false_eq_true, eq_self, if_true, if_false, not_or, not_and, Nat.not_lt, Nat.not_le, io_eq]
  · by_cases h2 : x = 38
    · subst h2; simp (disch := omega) only [f_Coder_rankOf, Option.bind_some, Nat.reduceEqDiff, Nat.add_zero, Nat.zero_add, Nat.reduceLT, Nat.reduceLeDiff, Nat.reduceAdd, Nat.reduceSub, Nat.reduceMul, Nat.reduceDiv, Nat.lt_irrefl, Nat.not_lt_zero, Nat.zero_le, Nat.one_ne_zero, Nat.succ_ne_zero,  lt_def, i32_lit, reduceIte, P_isIn_eq, or_false, false_or, or_true, true_or, and_true, true_and, and_false, false_and, not_true, not_false_eq_true, eq_self, if_true, if_false, not_or, not_and, Nat.not_lt, Nat.not_le, io_eq]
    · by_cases h3 : x = 42
      · subst h3; simp (disch := omega) only [f_Coder_rankOf, Option.bind_some, Nat.reduceEqDiff, Nat.add_zero, Nat.zero_add, Nat.reduceLT, Nat.reduceLeDiff, Nat.reduceAdd, Nat.reduceSub, Nat.reduceMul, Nat.reduceDiv, Nat.lt_irrefl, Nat.not_lt_zero, Nat.zero_le, Nat.one_ne_zero, Nat.succ_ne_zero,  lt_def, i32_lit, reduceIte, P_isIn_eq, or_false, false_or, or_true, true_or, and_true, true_and, and_false, false_and, not_true, not_false_eq_true, eq_self, if_true, if_false, not_or, not_and, Nat.not_lt, Nat.not_le, io_eq]
      · by_cases h4 : x = 43
        · subst h4; simp (disch := omega) only [f_Coder_rankOf, Option.bind_some, Nat.reduceEqDiff, Nat.add_zero, Nat.zero_add, Nat.reduceLT, Nat.reduceLeDiff, Nat.reduceAdd, Nat.reduceSub, Nat.reduceMul, Nat.reduceDiv, Nat.lt_irrefl, Nat.not_lt_zero, Nat.zero_le, Nat.one_ne_zero, Nat.succ_ne_zero,  lt_def, i32_lit, reduceIte, P_isIn_eq, or_false, false_or, or_true, true_or, and_true, true_and, and_false, false_and, not_true, not_false_eq_true, eq_self, if_true, if_false, not_or, not_and, Nat.not_lt, Nat.not_le, io_eq]
        · by_cases h5 : x = 45
          · subst h5; simp (disch := omega) only [f_Coder_rankOf, Option.bind_some, Nat.reduceEqDiff, Nat.add_zero, Nat.zero_add, Nat.reduceLT, Nat.reduceLeDiff, Nat.reduceAdd, Nat.reduceSub, Nat.reduceMul, Nat.reduceDiv, Nat.lt_irrefl, Nat.not_lt_zero, Nat.zero_le, Nat.one_ne_zero, Nat.succ_ne_zero,  lt_def, i32_lit, reduceIte, P_isIn_eq, or_false, false_or, or_true, true_or, and_true, true_and, and_false, false_and, not_true, not_false_eq_true, eq_self, if_true, if_false, not_or, not_and, Nat.not_lt, Nat.not_le, io_eq]
          · by_cases h6 : x = 47
            · subst h6; simp (disch := omega) only [f_Coder_rankOf, Option.bind_some, Nat.reduceEqDiff, Nat.add_zero, Nat.zero_add, Nat.reduceLT, Nat.reduceLeDiff, Nat.reduceAdd, Nat.reduceSub, Nat.reduceMul, Nat.reduceDiv, Nat.lt_irrefl, Nat.not_lt_zero, Nat.zero_le, Nat.one_ne_zero, Nat.succ_ne_zero,  lt_def, i32_lit, reduceIte, P_isIn_eq, or_false, false_or, or_true, true_or, and_true, true_and, and_false, false_and, not_true, not_false_eq_true, eq_self, if_true, if_false, not_or, not_and, Nat.not_lt, Nat.not_le, io_eq]
            · by_cases h7 : x = 60
              · subst h7; simp (disch := omega) only [f_Coder_rankOf, Option.bind_some, Nat.reduceEqDiff, Nat.add_zero, Nat.zero_add, Nat.reduceLT, Nat.reduceLeDiff, Nat.reduceAdd, Nat.reduceSub, Nat.reduceMul, Nat.reduceDiv, Nat.lt_irrefl, Nat.not_lt_zero, Nat.zero_le, Nat.one_ne_zero, Nat.succ_ne_zero,  lt_def, i32_lit, reduceIte, P_isIn_eq, or_false, false_or, or_true, true_or, and_true, true_and, and_false, false_and, not_true, not_false_eq_true, eq_self, if_true, if_false, not_or, not_and, Nat.not_lt, Nat.not_le, io_eq]
              · by_cases h8 : x = 61
                · subst h8; simp (disch := omega) only [f_Coder_rankOf, Option.bind_some, Nat.reduceEqDiff, Nat.add_zero, Nat.zero_add, Nat.reduceLT, Nat.reduceLeDiff, Nat.reduceAdd, Nat.reduceSub, Nat.reduceMul, Nat.reduceDiv, Nat.lt_irrefl, Nat.not_lt_zero, Nat.zero_le, Nat.one_ne_zero, Nat.succ_ne_zero,  lt_def, i32_lit, reduceIte, P_isIn_eq, or_false, false_or, or_true, true_or, and_true, true_and, and_false, false_and, not_true, not_false_eq_true, eq_self, if_true, if_false, not_or, not_and, Nat.not_lt, Nat.not_le, io_eq]
                · by_cases h9 : x = 62
                  · subst h9; simp (disch := omega) only [f_Coder_rankOf, Option.bind_some, Nat.reduceEqDiff, Nat.add_zero, Nat.zero_add, Nat.reduceLT, Nat.reduceLeDiff, Nat.reduceAdd, Nat.reduceSub, Nat.reduceMul, Nat.reduceDiv, Nat.lt_irrefl, Nat.not_lt_zero, Nat.zero_le, Nat.one_ne_zero, Nat.succ_ne_zero,  lt_def, i32_lit, reduceIte, P_isIn_eq, or_false, false_or, or_true, true_or, and_true, true_and, and_false, false_and, not_true, not_false_eq_true, eq_self, if_true, if_false, not_or, not_and, Nat.not_lt, Nat.not_le, io_eq]
                  · by_cases h10 : x = 124
                    · subst h10; simp (disch := omega) only [f_Coder_rankOf, Option.bind_some, Nat.reduceEqDiff, Nat.add_zero, Nat.zero_add, Nat.reduceLT, Nat.reduceLeDiff, Nat.reduceAdd, Nat.reduceSub, Nat.reduceMul, Nat.reduceDiv, Nat.lt_irrefl, Nat.not_lt_zero, Nat.zero_le, Nat.one_ne_zero, Nat.succ_ne_zero,  lt_def, i32_lit, reduceIte, P_isIn_eq, or_false, false_or, or_true, true_or, and_true, true_and, and_false, false_and, not_true, not_false_eq_true, eq_self, if_true, if_false, not_or, not_and, Nat.not_lt, Nat.not_le, io_eq]
                    · by_cases h11 : x = 126
                      · subst h11; simp (disch := omega) only [f_Coder_rankOf, Option.bind_some, Nat.reduceEqDiff, Nat.add_zero, Nat.zero_add, Nat.reduceLT, Nat.reduceLeDiff, Nat.reduceAdd, Nat.reduceSub, Nat.reduceMul, Nat.reduceDiv, Nat.lt_irrefl, Nat.not_lt_zero, Nat.zero_le, Nat.one_ne_zero, Nat.succ_ne_zero,  lt_def, i32_lit, reduceIte, P_isIn_eq, or_false, false_or, or_true, true_or, and_true, true_and, and_false, false_and, not_true, not_false_eq_true, eq_self, if_true, if_false, not_or, not_and, Nat.not_lt, Nat.not_le, io_eq]
                      · simp (disch := omega) only [f_Coder_rankOf, Option.bind_some, Nat.reduceEqDiff, Nat.add_zero, Nat.zero_add, Nat.reduceLT, Nat.reduceLeDiff, Nat.reduceAdd, Nat.reduceSub, Nat.reduceMul, Nat.reduceDiv, Nat.lt_irrefl, Nat.not_lt_zero, Nat.zero_le, Nat.one_ne_zero, Nat.succ_ne_zero,  lt_def, i32_lit, reduceIte, P_isIn_eq, or_false, false_or, or_true, true_or, and_true, true_and, and_false, false_and, not_true, not_false_eq_true, eq_self, if_true, if_false, not_or, not_and, Nat.not_lt, Nat.not_le, io_eq, h1, h2, h3, h4, h5, h6, h7, h8, h9, h10, h11, or_self]
def CB (s : St) (pl : List PR) (c : List Nat) : Prop := gI s 1668 = io pl.length ∧ stk (gA s 28) (pl.map Prod.fst) ∧ stk (gA s 29) (pl.map Prod.snd) ∧ gI s 1665 = io c.length ∧ ∀ i (h : i < c.length), gA s 27 i = io c[i]
/-- the text that the class reads -/
def CX2 (t : Nat → Nat) (n : Nat) (s : St) : Prop := ∀ k, k < n → gA s 1 k = io (t k)
def FC (s s' : St) : Prop := Fr [1665, 1668, 1669] [27, 28, 29] s s' ∧ gJ s' = gJ s
theorem FC.rf {s : St} : FC s s := ⟨Fr.rf, rfl⟩
theorem FC.trans {s s1 s2 : St} (h : FC s s1) (h2 : FC s1 s2) : FC s s2 := ⟨h.1.trans h2.1, h2.2.trans h.2⟩
theorem FC.I {s s1 : St} (h : FC s s1) {k : Nat} {x : Int32} (hk : k ∈ [1665, 1668, 1669]) : FC s (sI s1 k x) := ⟨h.1.I hk, h.2⟩
theorem FC.A {s s1 : St} (h : FC s s1) {k i : Nat} {x : Int32} (hk : k ∈ [27, 28, 29]) : FC s (sA s1 k i x) := ⟨h.1.A hk, h.2⟩
theorem FC.cx {t : Nat → Nat} {n : Nat} {s s' : St} (h : FC s s') (H : CX2 t n s) : CX2 t n s' := fun k hk => by rw [h.1.ga 1 (by decide)]; exact H k hk
theorem CB.I9 {s : St} {pl : List PR} {c : List Nat} {x : Int32} (H : CB s pl c) : CB (sI s 1669 x) pl c := H
theorem push_eq {F x : Nat} {s : St} {pl : List PR} {c : List Nat} (H : CB s pl c) (hp : pl.length ≤ 39) : ∃ s', f_Coder_push F s (io x) = some s' ∧ FC s s' ∧ CB s' ((x, c.length) :: pl) c ∧ gI s' 1669 = gI s 1669 := by
  obtain ⟨h1, h2, h3, h4, h5⟩ := H
  refine ⟨sI (sA (sA s 28 pl.length (io x)) 29 pl.length (io c.length)) 1668 (io (pl.length + 1)), ?_, ((FC.rf.A (by decide)).A (by decide)).I (by decide), ⟨rfl, ⟨?_, stk_ext _ (fun i hi => ?_) h2⟩, ⟨?_, stk_ext _ (fun i hi => ?_) h3⟩, h4, h5⟩, rfl⟩
  · have c1 : ¬ 39 < pl.length := by omega
    have c0 : ¬ pl.length < 0 := by omega
    simp (disch := omega) only [f_Coder_push, Option.bind_some, Nat.reduceEqDiff, Nat.add_zero, Nat.zero_add, Nat.reduceLT, Nat.reduceLeDiff, Nat.reduceAdd, Nat.reduceSub, Nat.reduceMul, Nat.reduceDiv, Nat.lt_irrefl, Nat.not_lt_zero, Nat.zero_le, Nat.one_ne_zero, Nat.succ_ne_zero,  lt_def, i32_lit, reduceIte, P_isIn_eq, or_false, false_or, or_true, true_or, and_true, true_and, and_false, false_and, not_true, not_false_eq_true, eq_self, if_true, if_false, not_or, not_and, Nat.not_lt, Nat.not_le, h1, io_lt, c0, io_sub, c1, io_eq, ix_io, gI_sA, h4, io_add]
  · rw [List.length_map]; simp only [gI_sI, gI_sA, gI_sL, gI_sJ, gI_sR, gI_sQ, gI_sD, gI_sN, gI_sz, gA_sI, gA_sA, gA_sL, gA_sJ, gA_sR, gA_sQ, gA_sD, gA_sN, gA_sz, gL_sI, gL_sA, gL_sL, gL_sJ, gL_sR, gL_sQ, gL_sD, gL_sN, gL_sz, gJ_sI, gJ_sA, gJ_sL, gJ_sJ, gJ_sR, gJ_sQ, gJ_sD, gJ_sN, gJ_sz, gR_sI, gR_sA, gR_sL, gR_sJ, gR_sR, gR_sQ, gR_sD, gR_sN, gR_sz, gQ_sI, gQ_sA, gQ_sL, gQ_sJ, gQ_sR, gQ_sQ, gQ_sD, gQ_sN, gQ_sz, gD_sI, gD_sA, gD_sL, gD_sJ, gD_sR, gD_sQ, gD_sD, gD_sN, gD_sz, sz_sI, sz_sA, sz_sL, sz_sJ, sz_sR, sz_sQ, sz_sD, sz_sN, sz_sz, reduceIte, Nat.reduceEqDiff]
  · rw [List.length_map] at hi
    simp only [gI_sI, gI_sA, gI_sL, gI_sJ, gI_sR, gI_sQ, gI_sD, gI_sN, gI_sz, gA_sI, gA_sA, gA_sL, gA_sJ, gA_sR, gA_sQ, gA_sD, gA_sN, gA_sz, gL_sI, gL_sA, gL_sL, gL_sJ, gL_sR, gL_sQ, gL_sD, gL_sN, gL_sz, gJ_sI, gJ_sA, gJ_sL, gJ_sJ, gJ_sR, gJ_sQ, gJ_sD, gJ_sN, gJ_sz, gR_sI, gR_sA, gR_sL, gR_sJ, gR_sR, gR_sQ, gR_sD, gR_sN, gR_sz, gQ_sI, gQ_sA, gQ_sL, gQ_sJ, gQ_sR, gQ_sQ, gQ_sD, gQ_sN, gQ_sz, gD_sI, gD_sA, gD_sL, gD_sJ, gD_sR, gD_sQ, gD_sD, gD_sN, gD_sz, sz_sI, sz_sA, sz_sL, sz_sJ, sz_sR, sz_sQ, sz_sD, sz_sN, sz_sz, reduceIte, Nat.reduceEqDiff]; rw [if_neg (by omega)]
  · rw [List.length_map]; simp only [gI_sI, gI_sA, gI_sL, gI_sJ, gI_sR, gI_sQ, gI_sD, gI_sN, gI_sz, gA_sI, gA_sA, gA_sL, gA_sJ, gA_sR, gA_sQ, gA_sD, gA_sN, gA_sz, gL_sI, gL_sA, gL_sL, gL_sJ, gL_sR, gL_sQ, gL_sD, gL_sN, gL_sz, gJ_sI, gJ_sA, gJ_sL, gJ_sJ, gJ_sR, gJ_sQ, gJ_sD, gJ_sN, gJ_sz, gR_sI, gR_sA, gR_sL, gR_sJ, gR_sR, gR_sQ, gR_sD, gR_sN, gR_sz, gQ_sI, gQ_sA, gQ_sL, gQ_sJ, gQ_sR, gQ_sQ, gQ_sD, gQ_sN, gQ_sz, gD_sI, gD_sA, gD_sL, gD_sJ, gD_sR, gD_sQ, gD_sD, gD_sN, gD_sz, sz_sI, sz_sA, sz_sL, sz_sJ, sz_sR, sz_sQ, sz_sD, sz_sN, sz_sz, reduceIte, Nat.reduceEqDiff]
  · rw [List.length_map] at hi
    simp only [gI_sI, gI_sA, gI_sL, gI_sJ, gI_sR, gI_sQ, gI_sD, gI_sN, gI_sz, gA_sI, gA_sA, gA_sL, gA_sJ, gA_sR, gA_sQ, gA_sD, gA_sN, gA_sz, gL_sI, gL_sA, gL_sL, gL_sJ, gL_sR, gL_sQ, gL_sD, gL_sN, gL_sz, gJ_sI, gJ_sA, gJ_sL, gJ_sJ, gJ_sR, gJ_sQ, gJ_sD, gJ_sN, gJ_sz, gR_sI, gR_sA, gR_sL, gR_sJ, gR_sR, gR_sQ, gR_sD, gR_sN, gR_sz, gQ_sI, gQ_sA, gQ_sL, gQ_sJ, gQ_sR, gQ_sQ, gQ_sD, gQ_sN, gQ_sz, gD_sI, gD_sA, gD_sL, gD_sJ, gD_sR, gD_sQ, gD_sD, gD_sN, gD_sz, sz_sI, sz_sA, sz_sL, sz_sJ, sz_sR, sz_sQ, sz_sD, sz_sN, sz_sz, reduceIte, Nat.reduceEqDiff]; rw [if_neg (by omega)]
theorem CB.pop {s : St} {pl : List PR} {x : PR} {c : List Nat} (H : CB s (x :: pl) c) : CB (sI s 1668 (io pl.length)) pl c := ⟨rfl, H.2.1.2, H.2.2.1.2, H.2.2.2⟩
theorem put_eq {F x : Nat} {s : St} {pl : List PR} {c : List Nat} (H : CB s pl c) (hc : c.length ≤ 79) : ∃ s', f_Coder_put F s (io x) = some s' ∧ FC s s' ∧ CB s' pl (c ++ [x]) ∧ gI s' 1669 = gI s 1669 := by
  obtain ⟨h1, h2, h3, h4, h5⟩ := H
  refine ⟨sI (sA s 27 c.length (io x)) 1665 (io (c.length + 1)), ?_, (FC.rf.A (by decide)).I (by decide), ⟨h1, h2, h3, by rw [List.length_append]; rfl, fun i hi => ?_⟩, rfl⟩
  · have c1 : ¬ 79 < c.length := by omega
    have c0 : ¬ c.length < 0 := by omega
    simp (disch := omega) only [f_Coder_put, Option.bind_some, Nat.reduceEqDiff, Nat.add_zero, Nat.zero_add, Nat.reduceLT, Nat.reduceLeDiff, Nat.reduceAdd, Nat.reduceSub, Nat.reduceMul, Nat.reduceDiv, Nat.lt_irrefl, Nat.not_lt_zero, Nat.zero_le, Nat.one_ne_zero, Nat.succ_ne_zero,  lt_def, i32_lit, reduceIte, P_isIn_eq, or_false, false_or, or_true, true_or, and_true, true_and, and_false, false_and, not_true, not_false_eq_true, eq_self, if_true, if_false, not_or, not_and, Nat.not_lt, Nat.not_le, h4, io_lt, c0, io_sub, c1, io_eq, ix_io, gI_sA, io_add]
  · rw [List.length_append] at hi
    have hi' : i < c.length + 1 := hi
    simp only [gI_sI, gI_sA, gI_sL, gI_sJ, gI_sR, gI_sQ, gI_sD, gI_sN, gI_sz, gA_sI, gA_sA, gA_sL, gA_sJ, gA_sR, gA_sQ, gA_sD, gA_sN, gA_sz, gL_sI, gL_sA, gL_sL, gL_sJ, gL_sR, gL_sQ, gL_sD, gL_sN, gL_sz, gJ_sI, gJ_sA, gJ_sL, gJ_sJ, gJ_sR, gJ_sQ, gJ_sD, gJ_sN, gJ_sz, gR_sI, gR_sA, gR_sL, gR_sJ, gR_sR, gR_sQ, gR_sD, gR_sN, gR_sz, gQ_sI, gQ_sA, gQ_sL, gQ_sJ, gQ_sR, gQ_sQ, gQ_sD, gQ_sN, gQ_sz, gD_sI, gD_sA, gD_sL, gD_sJ, gD_sR, gD_sQ, gD_sD, gD_sN, gD_sz, sz_sI, sz_sA, sz_sL, sz_sJ, sz_sR, sz_sQ, sz_sD, sz_sN, sz_sz, reduceIte]
    by_cases he : i = c.length
    · subst he
      rw [if_pos rfl, List.getElem_append_right (Nat.le_refl _)]
      simp
    · rw [if_neg he, List.getElem_append_left (by omega)]
      exact h5 i (by omega)
def flP (r : Nat) : List PR → List Nat → List PR × List Nat
  | [], c => ([], c)
  | x :: w, c => if rkP x.1 < r then (x :: w, c) else flP r w (c ++ [x.1])
def ltp (w : List PR) : Prop := ∀ x ∈ w, x.1 < 1000
theorem settle_eq {F r : Nat} (hr : r < 10) : ∀ (w : List PR) (m : Nat) (s : St) (c : List Nat), CB s w c → ltp w → w.length < m → w.length ≤ 40 → c.length + w.length ≤ 80 → ∃ s', f_Coder_settle_b0 F m s (io r) = some s' ∧ FC s s' ∧ CB s' (flP r w c).1 (flP r w c).2 ∧ gI s' 1669 = gI s 1669 := by
  intro w
  induction w with
  | nil =>
    intro m s c H hl hm h40 hc
    obtain ⟨m, rfl⟩ : ∃ m', m = m' + 1 := ⟨m - 1, by omega⟩
    have e5 := H.1
    rw [List.length_nil] at e5
    refine ⟨s, ?_, FC.rf, H, rfl⟩
    have h01 : 0 < 1 := by omega
    simp (disch := omega) only [f_Coder_settle_b0, Option.bind_some, Nat.reduceEqDiff, Nat.add_zero, Nat.zero_add, Nat.reduceLT, Nat.reduceLeDiff, Nat.reduceAdd, Nat.reduceSub, Nat.reduceMul, Nat.reduceDiv, Nat.lt_irrefl, Nat.not_lt_zero, Nat.zero_le, Nat.one_ne_zero, Nat.succ_ne_zero,  lt_def, i32_lit, reduceIte, P_isIn_eq, or_false, false_or, or_true, true_or, and_true, true_and, and_false, false_and, not_true, not_false_eq_true, eq_self, if_true, if_false, not_or, not_and, Nat.not_lt, Nat.not_le, e5, io_lt, h01, io_eq]
  | cons x w ih =>
    intro m s c H hl hm h40 hc
    obtain ⟨m, rfl⟩ : ∃ m', m = m' + 1 := ⟨m - 1, by omega⟩
    have hc' : c.length + (w.length + 1) ≤ 80 := hc
    have h40' : w.length + 1 ≤ 40 := h40
    have hm' : w.length + 1 < m + 1 := hm
    have e5 := H.1
    have e7 := H.2.1.1
    rw [List.length_cons] at e5
    rw [List.length_map] at e7
    have hx : x.1 < 1000 := hl x List.mem_cons_self
    have n1 : ¬ w.length + 1 < 1 := by omega
    have n2 : ¬ 40 < w.length + 1 := by omega
    have hrk := rkP_le x.1
    have hra := rankP_eq (F := F) (s := s) hx
    unfold flP
    by_cases h2 : rkP x.1 < r
    · refine ⟨s, ?_, FC.rf, by rw [if_pos h2]; exact H, rfl⟩
      simp (disch := omega) only [f_Coder_settle_b0, Option.bind_some, Nat.reduceEqDiff, Nat.add_zero, Nat.zero_add, Nat.reduceLT, Nat.reduceLeDiff, Nat.reduceAdd, Nat.reduceSub, Nat.reduceMul, Nat.reduceDiv, Nat.lt_irrefl, Nat.not_lt_zero, Nat.zero_le, Nat.one_ne_zero, Nat.succ_ne_zero,  lt_def, i32_lit, reduceIte, P_isIn_eq, or_false, false_or, or_true, true_or, and_true, true_and, and_false, false_and, not_true, not_false_eq_true, eq_self, if_true, if_false, not_or, not_and, Nat.not_lt, Nat.not_le, e5, io_lt, n1, n2, io_eq, io_sub, Nat.add_sub_cancel, ix_io, e7, hra, h2]
    · obtain ⟨s1, a1, a2, a3, a4⟩ := put_eq (F := F) (x := x.1) H.pop (by omega)
      obtain ⟨s', b1, b2, b3, b4⟩ := ih m s1 _ a3 (fun y hy => hl y (List.mem_cons_of_mem _ hy)) (by omega) (by omega) (by rw [List.length_append]; show c.length + 1 + w.length ≤ 80; omega)
      refine ⟨s', ?_, ((FC.rf.I (by decide)).trans a2).trans b2, by rw [if_neg h2]; exact b3, by rw [b4, a4]; rfl⟩
      simp (disch := omega) only [f_Coder_settle_b0, Option.bind_some, Nat.reduceEqDiff, Nat.add_zero, Nat.zero_add, Nat.reduceLT, Nat.reduceLeDiff, Nat.reduceAdd, Nat.reduceSub, Nat.reduceMul, Nat.reduceDiv, Nat.lt_irrefl, Nat.not_lt_zero, Nat.zero_le, Nat.one_ne_zero, Nat.succ_ne_zero,  lt_def, i32_lit, reduceIte, P_isIn_eq, or_false, false_or, or_true, true_or, and_true, true_and, and_false, false_and, not_true, not_false_eq_true, eq_self, if_true, if_false, not_or, not_and, Nat.not_lt, Nat.not_le, e5, io_lt, n1, n2, io_eq, io_sub, Nat.add_sub_cancel, ix_io, e7, hra, h2, gA_sI, gI_sI, a1]
      exact b1
theorem flP_all {r : Nat} : ∀ (pd w : List PR) (c : List Nat), (∀ x ∈ pd, r ≤ rkP x.1) → (∀ x w', w = x :: w' → rkP x.1 < r) → flP r (pd ++ w) c = (w, c ++ pd.map Prod.fst) := by
  intro pd
  induction pd with
  | nil =>
    intro w c _ hw
    rw [List.nil_append, List.map_nil, List.append_nil]
    cases w with
    | nil => rfl
    | cons x w => unfold flP; rw [if_pos (hw x w rfl)]
  | cons x pd ih =>
    intro w c hp hw
    show flP r (x :: (pd ++ w)) c = _
    unfold flP
    have := hp x List.mem_cons_self
    rw [if_neg (by omega), ih w _ (fun y hy => hp y (List.mem_cons_of_mem _ hy)) hw, List.append_assoc]
    rfl
/-! how the class writes choices and questions -/
def chr1 (x : CT) : List Nat := if cmc x.1 = true then [x.2.1, 35, x.2.2.1] ++ (if x.2.2.2 = 1 then [126] else []) ++ [x.1] else [x.1]
def chrow (c : List CT) : List Nat := c.flatMap chr1
def chO (ch : Option (List CT)) : List Nat := match ch with
  | none => []
  | some c => chrow c
def qr1 (x : QT) : List Nat := if x.1 = 35 then [35, x.2.1] else if agc x.1 = true then [x.1, x.2.1, (chO x.2.2).length] ++ chO x.2.2 else [x.1]
def qrow (c : List QT) : List Nat := c.flatMap qr1
theorem chrow_app {a b : List CT} : chrow (a ++ b) = chrow a ++ chrow b := List.flatMap_append
theorem qrow_app {a b : List QT} : qrow (a ++ b) = qrow a ++ qrow b := List.flatMap_append
theorem chrow_one {x : CT} : chrow [x] = chr1 x := List.flatMap_singleton ..
theorem qrow_one {x : QT} : qrow [x] = qr1 x := List.flatMap_singleton ..
/-! the loop over the text -/
abbrev TP (F n m : Nat) (s : St) (i u : Nat) : Option St := f_Coder_turn_b20 F m s (io n) (io i) (io u)
theorem TP_step {F n m i i' u : Nat} {s s' : St} (hn : n ≤ 40) (hi : i < n) (hu : u ≤ i) (hm : 1 ≤ m) (h : f_Coder_turnPart F s (io i) (io n) = some (io i', s')) : TP F n m s i u = TP F n (m - 1) s' i' (u + 1) := by
  obtain ⟨m, rfl⟩ : ∃ m', m = m' + 1 := ⟨m - 1, by omega⟩
  have n1 : ¬ 40 ≤ u := by omega
  have n2 : ¬ n ≤ i := by omega
  have n3 : ¬ 40 ≤ i := by omega
  have n4 : ¬ 40 < n := by omega
  show f_Coder_turn_b20 F (m + 1) s (io n) (io i) (io u) = f_Coder_turn_b20 F (m + 1 - 1) s' (io n) (io i') (io (u + 1))
  simp (disch := omega) only [f_Coder_turn_b20, Option.bind_some, Nat.reduceEqDiff, Nat.add_zero, Nat.zero_add, Nat.reduceLT, Nat.reduceLeDiff, Nat.reduceAdd, Nat.reduceSub, Nat.reduceMul, Nat.reduceDiv, Nat.lt_irrefl, Nat.not_lt_zero, Nat.zero_le, Nat.one_ne_zero, Nat.succ_ne_zero,  lt_def, i32_lit, reduceIte, P_isIn_eq, or_false, false_or, or_true, true_or, and_true, true_and, and_false, false_and, not_true, not_false_eq_true, eq_self, if_true, if_false, not_or, not_and, Nat.not_lt, Nat.not_le, io_le, n1, n2, n3, io_lt, n4, h, io_add, Nat.add_sub_cancel]
theorem part_pre {F n i : Nat} {t : Nat → Nat} {s : St} (T : TXT t n) (X : CX2 t n s) (hi : i < n) : f_Coder_turnPart F s (io i) (io n) = if dgt (t i) = true then (f_Coder_turnNumber F s (io i) (io n)).bind (fun x => some (x.1, x.2)) else if agc (t i) = true then (f_Coder_openAggregate F s (io i) (io n)).bind (fun x => some (x.1, x.2)) else if fdc (t i) = true then (f_Coder_put F s (io (t i))).bind (fun x => some (io (i + 1), x)) else if t i = 40 then (f_Coder_push F s (io (t i))).bind (fun x => some (io (i + 1), x)) else if t i = 41 then (f_Coder_close F s).bind (fun x => some (io (i + 1), x)) else (f_Coder_turnSign F s (io (t i))).bind (fun x => some (io (i + 1), x)) := by
  have hn := T.1
  have e := X i hi
  have ht := tlt (i := i) T
  have n0 : ¬ i < 0 := by omega
  have n1 : ¬ n ≤ i := by omega
  have n2 : i < 40 := by omega
  have hd := isDigit_eq (F := F) (s := s) ht
  have ha := isAgg_eq (F := F) (s := s) ht
  have hf := isField_eq (F := F) (s := s) ht
  by_cases d : dgt (t i) = true
  · rw [if_pos d] at hd ⊢
    simp (disch := omega) only [f_Coder_turnPart, Option.bind_some, Nat.reduceEqDiff, Nat.add_zero, Nat.zero_add, Nat.reduceLT, Nat.reduceLeDiff, Nat.reduceAdd, Nat.reduceSub, Nat.reduceMul, Nat.reduceDiv, Nat.lt_irrefl, Nat.not_lt_zero, Nat.zero_le, Nat.one_ne_zero, Nat.succ_ne_zero,  lt_def, i32_lit, reduceIte, P_isIn_eq, or_false, false_or, or_true, true_or, and_true, true_and, and_false, false_and, not_true, not_false_eq_true, eq_self, if_true, if_false, not_or, not_and, Nat.not_lt, Nat.not_le, io_lt, n0, io_le, n1, n2, ix_io, e, hd, io_eq]
  · rw [if_neg d] at hd ⊢
    by_cases a : agc (t i) = true
    · rw [if_pos a] at ha ⊢
      simp (disch := omega) only [f_Coder_turnPart, Option.bind_some, Nat.reduceEqDiff, Nat.add_zero, Nat.zero_add, Nat.reduceLT, Nat.reduceLeDiff, Nat.reduceAdd, Nat.reduceSub, Nat.reduceMul, Nat.reduceDiv, Nat.lt_irrefl, Nat.not_lt_zero, Nat.zero_le, Nat.one_ne_zero, Nat.succ_ne_zero,  lt_def, i32_lit, reduceIte, P_isIn_eq, or_false, false_or, or_true, true_or, and_true, true_and, and_false, false_and, not_true, not_false_eq_true, eq_self, if_true, if_false, not_or, not_and, Nat.not_lt, Nat.not_le, io_lt, n0, io_le, n1, n2, ix_io, e, hd, ha, io_eq]
    · rw [if_neg a] at ha ⊢
      by_cases f : fdc (t i) = true
      · rw [if_pos f] at hf ⊢
        simp (disch := omega) only [f_Coder_turnPart, Option.bind_some, Nat.reduceEqDiff, Nat.add_zero, Nat.zero_add, Nat.reduceLT, Nat.reduceLeDiff, Nat.reduceAdd, Nat.reduceSub, Nat.reduceMul, Nat.reduceDiv, Nat.lt_irrefl, Nat.not_lt_zero, Nat.zero_le, Nat.one_ne_zero, Nat.succ_ne_zero,  lt_def, i32_lit, reduceIte, P_isIn_eq, or_false, false_or, or_true, true_or, and_true, true_and, and_false, false_and, not_true, not_false_eq_true, eq_self, if_true, if_false, not_or, not_and, Nat.not_lt, Nat.not_le, io_lt, n0, io_le, n1, n2, ix_io, e, hd, ha, hf, io_eq, io_add]
      · rw [if_neg f] at hf ⊢
        by_cases h40 : t i = 40
        · rw [if_pos h40]
          rw [h40] at hd ha hf
          simp (disch := omega) only [f_Coder_turnPart, Option.bind_some, Nat.reduceEqDiff, Nat.add_zero, Nat.zero_add, Nat.reduceLT, Nat.reduceLeDiff, Nat.reduceAdd, Nat.reduceSub, Nat.reduceMul, Nat.reduceDiv, Nat.lt_irrefl, Nat.not_lt_zero, Nat.zero_le, Nat.one_ne_zero, Nat.succ_ne_zero,  lt_def, i32_lit, reduceIte, P_isIn_eq, or_false, false_or, or_true, true_or, and_true, true_and, and_false, false_and, not_true, not_false_eq_true, eq_self, if_true, if_false, not_or, not_and, Nat.not_lt, Nat.not_le, io_lt, n0, io_le, n1, n2, ix_io, e, hd, ha, hf, io_eq, io_add, h40]
        · rw [if_neg h40]
          by_cases h41 : t i = 41
          · rw [if_pos h41]
            rw [h41] at hd ha hf
            simp (disch := omega) only [f_Coder_turnPart, Option.bind_some, Nat.reduceEqDiff, Nat.add_zero, Nat.zero_add, Nat.reduceLT, Nat.reduceLeDiff, Nat.reduceAdd, Nat.reduceSub, Nat.reduceMul, Nat.reduceDiv, Nat.lt_irrefl, Nat.not_lt_zero, Nat.zero_le, Nat.one_ne_zero, Nat.succ_ne_zero,  lt_def, i32_lit, reduceIte, P_isIn_eq, or_false, false_or, or_true, true_or, and_true, true_and, and_false, false_and, not_true, not_false_eq_true, eq_self, if_true, if_false, not_or, not_and, Nat.not_lt, Nat.not_le, io_lt, n0, io_le, n1, n2, ix_io, e, hd, ha, hf, io_eq, io_add, h40, h41]
          · rw [if_neg h41]
            simp (disch := omega) only [f_Coder_turnPart, Option.bind_some, Nat.reduceEqDiff, Nat.add_zero, Nat.zero_add, Nat.reduceLT, Nat.reduceLeDiff, Nat.reduceAdd, Nat.reduceSub, Nat.reduceMul, Nat.reduceDiv, Nat.lt_irrefl, Nat.not_lt_zero, Nat.zero_le, Nat.one_ne_zero, Nat.succ_ne_zero,  lt_def, i32_lit, reduceIte, P_isIn_eq, or_false, false_or, or_true, true_or, and_true, true_and, and_false, false_and, not_true, not_false_eq_true, eq_self, if_true, if_false, not_or, not_and, Nat.not_lt, Nat.not_le, io_lt, n0, io_le, n1, n2, ix_io, e, hd, ha, hf, io_eq, io_add, h40, h41]
theorem numC_loop {F n : Nat} {t : Nat → Nat} (T : TXT t n) {pl : List PR} {c : List Nat} {s : St} (X : CX2 t n s) (H : CB s pl c) (hc : c.length ≤ 78) : ∀ k m v i, i ≤ n → k < m → dgt (t (nb t k v i).2) = false → ∃ s', f_Coder_turnNumber_b6 F m s (io n) (io v) (io i) = some (io (nb t k v i).2, s') ∧ FC s s' ∧ CB s' pl (c ++ [35, (nb t k v i).1]) ∧ gI s' 1669 = io 1 := by
  have hn := T.1
  have stop : ∀ m v i, i ≤ n → 1 ≤ m → dgt (t i) = false → ∃ s', f_Coder_turnNumber_b6 F m s (io n) (io v) (io i) = some (io i, s') ∧ FC s s' ∧ CB s' pl (c ++ [35, v]) ∧ gI s' 1669 = io 1 := by
    intro m v i hi hm hd
    obtain ⟨m, rfl⟩ : ∃ m', m = m' + 1 := ⟨m - 1, by omega⟩
    obtain ⟨s1, a1, a2, a3, a4⟩ := put_eq (F := F) (x := 35) H (by omega)
    obtain ⟨s2, b1, b2, b3, b4⟩ := put_eq (F := F) (x := v) a3 (by rw [List.length_append]; show c.length + 1 ≤ 79; omega)
    rw [List.append_assoc] at b3
    refine ⟨sI s2 1669 (io 1), ?_, (a2.trans b2).I (by decide), b3.I9, rfl⟩
    have n0 : ¬ i < 0 := by omega
    by_cases hin : n ≤ i
    · simp (disch := omega) only [f_Coder_turnNumber_b6, Option.bind_some, Nat.reduceEqDiff, Nat.add_zero, Nat.zero_add, Nat.reduceLT, Nat.reduceLeDiff, Nat.reduceAdd, Nat.reduceSub, Nat.reduceMul, Nat.reduceDiv, Nat.lt_irrefl, Nat.not_lt_zero, Nat.zero_le, Nat.one_ne_zero, Nat.succ_ne_zero,  lt_def, i32_lit, reduceIte, P_isIn_eq, or_false, false_or, or_true, true_or, and_true, true_and, and_false, false_and, not_true, not_false_eq_true, eq_self, if_true, if_false, not_or, not_and, Nat.not_lt, Nat.not_le, io_lt, n0, io_le, hin, a1, b1]
    · have n3 : ¬ 40 ≤ i := by omega
      have e := X i (by omega)
      have hdd := isDigit_eq (F := F) (s := s) (tlt (i := i) T)
      rw [if_neg (by rw [hd]; decide)] at hdd
      simp (disch := omega) only [f_Coder_turnNumber_b6, Option.bind_some, Nat.reduceEqDiff, Nat.add_zero, Nat.zero_add, Nat.reduceLT, Nat.reduceLeDiff, Nat.reduceAdd, Nat.reduceSub, Nat.reduceMul, Nat.reduceDiv, Nat.lt_irrefl, Nat.not_lt_zero, Nat.zero_le, Nat.one_ne_zero, Nat.succ_ne_zero,  lt_def, i32_lit, reduceIte, P_isIn_eq, or_false, false_or, or_true, true_or, and_true, true_and, and_false, false_and, not_true, not_false_eq_true, eq_self, if_true, if_false, not_or, not_and, Nat.not_lt, Nat.not_le, io_lt, n0, io_le, hin, n3, ix_io, e, hdd, a1, b1]
  intro k
  induction k with
  | zero => intro m v i hi hm hd; exact stop m v i hi (by omega) hd
  | succ k ih =>
    intro m v i hi hm hd
    by_cases h : dgt (t i) = true
    · obtain ⟨m, rfl⟩ : ∃ m', m = m' + 1 := ⟨m - 1, by omega⟩
      unfold nb at hd ⊢
      rw [if_pos h] at hd ⊢
      have i1 := T.bin h
      have h48 : 48 ≤ t i := by unfold dgt at h; exact (of_decide_eq_true h).1
      obtain ⟨s', a1, a2⟩ := ih m (10 * v + (t i - 48)) (i + 1) i1 (by omega) hd
      refine ⟨s', ?_, a2⟩
      have n0 : ¬ i < 0 := by omega
      have hin : ¬ n ≤ i := by omega
      have n3 : ¬ 40 ≤ i := by omega
      have e := X i (by omega)
      have hdd := isDigit_eq (F := F) (s := s) (tlt (i := i) T)
      rw [if_pos h] at hdd
      simp (disch := omega) only [f_Coder_turnNumber_b6, Option.bind_some, Nat.reduceEqDiff, Nat.add_zero, Nat.zero_add, Nat.reduceLT, Nat.reduceLeDiff, Nat.reduceAdd, Nat.reduceSub, Nat.reduceMul, Nat.reduceDiv, Nat.lt_irrefl, Nat.not_lt_zero, Nat.zero_le, Nat.one_ne_zero, Nat.succ_ne_zero,  lt_def, i32_lit, reduceIte, P_isIn_eq, or_false, false_or, or_true, true_or, and_true, true_and, and_false, false_and, not_true, not_false_eq_true, eq_self, if_true, if_false, not_or, not_and, Nat.not_lt, Nat.not_le, io_lt, n0, io_le, hin, n3, ix_io, e, hdd, io_eq, io_sub, io_mul, io_add]
      exact a1
    · unfold nb at hd ⊢
      rw [if_neg h] at hd ⊢
      exact stop m v i hi (by omega) hd
theorem numC {F n i : Nat} {t : Nat → Nat} (hF : 5000 ≤ F) (T : TXT t n) {pl : List PR} {c : List Nat} {s : St} (X : CX2 t n s) (H : CB s pl c) (hc : c.length ≤ 78) {v : Nat} (hi : i ≤ n) (hv : (pNum t i).1 = some v) (hd : dgt (t (pNum t i).2) = false) : i < n ∧ ∃ s', f_Coder_turnPart F s (io i) (io n) = some (io (pNum t i).2, s') ∧ FC s s' ∧ CB s' pl (c ++ [35, v]) ∧ gI s' 1669 = io 1 := by
  unfold pNum at hv hd ⊢
  by_cases h : dgt (t i) = true
  · rw [if_pos h] at hv hd ⊢
    cases hv
    have i1 := T.bin h
    obtain ⟨s', a1, a2⟩ := numC_loop (F := F) T X H hc 4 F 0 i hi (by omega) hd
    refine ⟨i1, s', ?_, a2⟩
    rw [part_pre T X i1, if_pos h]
    have a1' : f_Coder_turnNumber F s (io i) (io n) = some (io (nb t 4 0 i).2, s') := a1
    rw [a1']; rfl
  · rw [if_neg h] at hv; cases hv
/-- a sign between two parts -/
theorem signC {F n i x r : Nat} {t : Nat → Nat} (hF : 5000 ≤ F) (T : TXT t n) {pl pl' pd : List PR} {c c' e : List Nat} {s : St} (X : CX2 t n s) (H : CB s pl' c') (hi : i < n) (hx : t i = x) (hr : rkP x = r) (h1 : 1 ≤ r) (h6 : r ≤ 6) (h3 : x ≠ 33) (h45 : x = 45 → gI s 1669 = io 1) (e1 : pl' = pd ++ pl) (e2 : c' ++ pd.map Prod.fst = c ++ e) (e3 : ∀ y ∈ pd, r ≤ rkP y.1) (tp : ∀ y w, pl = y :: w → rkP y.1 < r) (hl : ltp pl') (hp : pl'.length ≤ i) (hc : c'.length + pl'.length ≤ 2 * i) :
    ∃ s', f_Coder_turnPart F s (io i) (io n) = some (io (i + 1), s') ∧ FC s s' ∧ CB s' ((x, (c ++ e).length) :: pl) (c ++ e) ∧ gI s' 1669 = io 0 := by
  have hn := T.1
  have ht := tlt (i := i) T
  have hrk : rkP (t i) = r := by rw [hx]; exact hr
  have nx : x ≠ 126 := fun e => by rw [e] at hr; have : rkP 126 = 7 := rfl; omega
  have nd : ¬ dgt (t i) = true := fun h => by
    unfold dgt at h; have := of_decide_eq_true h
    rw [hx] at this; rw [← hr] at h1; unfold rkP at h1
    revert h1; repeat (first | omega | split)
  have na : ¬ agc (t i) = true := fun h => by
    unfold agc at h; have := of_decide_eq_true h
    rw [hx] at this; rw [← hr] at h1; unfold rkP at h1
    revert h1; repeat (first | omega | split)
  have nf : ¬ fdc (t i) = true := fun h => by
    unfold fdc at h; have := of_decide_eq_true h
    rw [hx] at this; rw [← hr] at h1; unfold rkP at h1
    revert h1; repeat (first | omega | split)
  have n40 : ¬ t i = 40 := fun h => by rw [h] at hrk; have : rkP 40 = 0 := rfl; omega
  have n41 : ¬ t i = 41 := fun h => by rw [h] at hrk; have : rkP 41 = 0 := rfl; omega
  obtain ⟨s1, b1, b2, b3, b4⟩ := settle_eq (F := F) (r := r) (by omega) pl' F s c' H hl (by omega) (by omega) (by omega)
  rw [e1, flP_all pd pl c' e3 tp, e2] at b3
  have b1' : f_Coder_settle F s (io r) = some s1 := b1
  have hpl : pl.length ≤ 39 := by
    have := congrArg List.length e1
    rw [List.length_append] at this; omega
  obtain ⟨s2, d1, d2, d3, d4⟩ := push_eq (F := F) (x := x) b3 hpl
  refine ⟨sI s2 1669 (io 0), ?_, (b2.trans d2).I (by decide), d3.I9, rfl⟩
  rw [part_pre T X hi, if_neg nd, if_neg na, if_neg nf, if_neg n40, if_neg n41, hx]
  have hra := rankP_eq (F := F) (s := s) (show x < 1000 by omega)
  rw [hr] at hra
  have eb : f_Coder_turnSign_b19 F s (io x) = some (sI s2 1669 (io 0)) := by
    simp (disch := omega) only [f_Coder_turnSign_b19, Option.bind_some, Nat.reduceEqDiff, Nat.add_zero, Nat.zero_add, Nat.reduceLT, Nat.reduceLeDiff, Nat.reduceAdd, Nat.reduceSub, Nat.reduceMul, Nat.reduceDiv, Nat.lt_irrefl, Nat.not_lt_zero, Nat.zero_le, Nat.one_ne_zero, Nat.succ_ne_zero,  lt_def, i32_lit, reduceIte, P_isIn_eq, or_false, false_or, or_true, true_or, and_true, true_and, and_false, false_and, not_true, not_false_eq_true, eq_self, if_true, if_false, not_or, not_and, Nat.not_lt, Nat.not_le, io_eq, nx, h3, hra, b1', d1]
  by_cases e45 : x = 45
  · have e69 := h45 e45
    subst e45
    simp (disch := omega) only [f_Coder_turnSign, Option.bind_some, Nat.reduceEqDiff, Nat.add_zero, Nat.zero_add, Nat.reduceLT, Nat.reduceLeDiff, Nat.reduceAdd, Nat.reduceSub, Nat.reduceMul, Nat.reduceDiv, Nat.lt_irrefl, Nat.not_lt_zero, Nat.zero_le, Nat.one_ne_zero, Nat.succ_ne_zero,  lt_def, i32_lit, reduceIte, P_isIn_eq, or_false, false_or, or_true, true_or, and_true, true_and, and_false, false_and, not_true, not_false_eq_true, eq_self, if_true, if_false, not_or, not_and, Nat.not_lt, Nat.not_le, io_eq, e69, eb]
  · simp (disch := omega) only [f_Coder_turnSign, Option.bind_some, Nat.reduceEqDiff, Nat.add_zero, Nat.zero_add, Nat.reduceLT, Nat.reduceLeDiff, Nat.reduceAdd, Nat.reduceSub, Nat.reduceMul, Nat.reduceDiv, Nat.lt_irrefl, Nat.not_lt_zero, Nat.zero_le, Nat.one_ne_zero, Nat.succ_ne_zero,  lt_def, i32_lit, reduceIte, P_isIn_eq, or_false, false_or, or_true, true_or, and_true, true_and, and_false, false_and, not_true, not_false_eq_true, eq_self, if_true, if_false, not_or, not_and, Nat.not_lt, Nat.not_le, io_eq, e45, eb]
/-- a bracket ends, which is none of an aggregate -/
theorem closeP {F n i z : Nat} {t : Nat → Nat} (hF : 5000 ≤ F) (T : TXT t n) {pl pl' pd : List PR} {c c' e : List Nat} {s : St} (X : CX2 t n s) (H : CB s pl' c') (hi : i < n) (hx : t i = 41) (e1 : pl' = pd ++ (40, z) :: pl) (e2 : c' ++ pd.map Prod.fst = c ++ e) (e3 : ∀ y ∈ pd, 1 ≤ rkP y.1) (hl : ltp pl') (hp : pl'.length ≤ i) (hc : c'.length + pl'.length ≤ 2 * i) :
    ∃ s', f_Coder_turnPart F s (io i) (io n) = some (io (i + 1), s') ∧ FC s s' ∧ CB s' pl (c ++ e) ∧ gI s' 1669 = io 1 := by
  have hn := T.1
  obtain ⟨s1, b1, b2, b3, b4⟩ := settle_eq (F := F) (r := 1) (by omega) pl' F s c' H hl (by omega) (by omega) (by omega)
  rw [e1, flP_all pd _ c' e3 (fun y w h => by cases h; show rkP 40 < 1; decide), e2] at b3
  have b1' : f_Coder_settle F s (io 1) = some s1 := b1
  have hpl : pl.length ≤ 38 := by
    have := congrArg List.length e1
    rw [List.length_append] at this
    have h2 : pl'.length = pd.length + (pl.length + 1) := this
    omega
  have g8 : gI s1 1668 = io (pl.length + 1) := b3.1
  have g28 : gA s1 28 pl.length = io 40 := by have := b3.2.1.1; rw [List.length_map] at this; exact this
  refine ⟨sI (sI s1 1669 (io 1)) 1668 (io pl.length), ?_, (b2.I (by decide)).I (by decide), CB.pop b3.I9, rfl⟩
  rw [part_pre T X hi, if_neg (by rw [hx]; decide), if_neg (by rw [hx]; decide), if_neg (by rw [hx]; decide), if_neg (by rw [hx]; decide), if_pos hx]
  have n1 : ¬ pl.length + 1 < 1 := by omega
  have n2 : ¬ 40 < pl.length + 1 := by omega
  have hag := isAgg_eq (F := F) (s := sI (sI s1 1669 (io 1)) 1668 (io pl.length)) (show 40 < 1000 by omega)
  rw [if_neg (by decide)] at hag
  simp (disch := omega) only [f_Coder_close, Option.bind_some, Nat.reduceEqDiff, Nat.add_zero, Nat.zero_add, Nat.reduceLT, Nat.reduceLeDiff, Nat.reduceAdd, Nat.reduceSub, Nat.reduceMul, Nat.reduceDiv, Nat.lt_irrefl, Nat.not_lt_zero, Nat.zero_le, Nat.one_ne_zero, Nat.succ_ne_zero,  lt_def, i32_lit, reduceIte, P_isIn_eq, or_false, false_or, or_true, true_or, and_true, true_and, and_false, false_and, not_true, not_false_eq_true, eq_self, if_true, if_false, not_or, not_and, Nat.not_lt, Nat.not_le, b1', gI_sI, g8, io_lt, n1, n2, io_eq, io_sub, Nat.add_sub_cancel, ix_io, gA_sI, g28, hag]

/-! the class turns a text into codes: its recursion, seen from the grammar -/
def PP (t : Nat → Nat) (n : Nat) (s : St) (pl : List PR) (c : List Nat) (i u : Nat) : Prop := CB s pl c ∧ CX2 t n s ∧ gI s 1669 = io 0 ∧ c.length + pl.length ≤ 2 * i ∧ pl.length ≤ i ∧ ltp pl ∧ u ≤ i
def DP (r : Nat) (pl : List PR) (c rw : List Nat) (pl' : List PR) (c' : List Nat) : Prop := ∃ pd : List PR, pl' = pd ++ pl ∧ c' ++ pd.map Prod.fst = c ++ rw ∧ ∀ y ∈ pd, r ≤ rkP y.1
def RP (F : Nat) (t : Nat → Nat) (n r : Nat) (pl : List PR) (c rw : List Nat) (x : Option St) (s : St) (M j : Nat) : Prop := ∃ s' m' u' pl' c', x = TP F n m' s' j u' ∧ m' + u' = M ∧ u' ≤ j ∧ FC s s' ∧ CB s' pl' c' ∧ gI s' 1669 = io 1 ∧ c'.length + pl'.length ≤ 2 * j ∧ pl'.length ≤ j ∧ DP r pl c rw pl' c'
def tpP (r : Nat) (pl : List PR) : Prop := ∀ y w, pl = y :: w → rkP y.1 < r
theorem rkP_lt {x : Nat} (h : 1 ≤ rkP x) : x < 1000 := by
  rcases Nat.lt_or_ge x 1000 with h1 | h1
  · exact h1
  · unfold rkP at h; revert h; repeat (first | omega | split)
theorem DP.q {r : Nat} {pl pl' : List PR} {c rw c' : List Nat} (h : DP r pl c rw pl' c') (hr : 1 ≤ r) (hl : ltp pl) : ltp pl' := by
  obtain ⟨pd, rfl, -, h3⟩ := h
  intro x hx
  rcases List.mem_append.mp hx with h | h
  · exact rkP_lt (Nat.le_trans hr (h3 x h))
  · exact hl x h
theorem RP.pre {F n r M j : Nat} {t : Nat → Nat} {pl : List PR} {c rw : List Nat} {x : Option St} {s s1 : St} (h : RP F t n r pl c rw x s1 M j) (f : FC s s1) : RP F t n r pl c rw x s M j := by
  obtain ⟨s', m', u', pl', c', a1, a2, a3, a4, a5⟩ := h
  exact ⟨s', m', u', pl', c', a1, a2, a3, f.trans a4, a5⟩
theorem chn_dg {α : Type} {t : Nat → Nat} {part : Nat → Option (List α) × Nat} {sg : Nat → Bool} {tk : Nat → α} (hs : ∀ x, sg x = true → dgt x = false) {k : Nat} {acc : List α} {i : Nat} (hd : dgt (t (chn t part sg tk k acc i).2) = false) : dgt (t i) = false := by
  cases k with
  | zero => exact hd
  | succ k =>
    unfold chn at hd
    by_cases h : sg (t i) = true
    · exact hs _ h
    · rw [if_neg h] at hd; exact hd
theorem sgc_dg {g x : Nat} (h : sgc g x = true) : dgt x = false := by
  unfold sgc cmc at h
  unfold dgt
  rw [decide_eq_false_iff_not]
  intro hc
  by_cases g0 : g = 0
  · rw [if_pos g0] at h; have := of_decide_eq_true h; omega
  · rw [if_neg g0] at h
    by_cases g1 : g = 1
    · rw [if_pos g1] at h; have := of_decide_eq_true h; omega
    · rw [if_neg g1] at h
      by_cases g2 : g = 2
      · rw [if_pos g2] at h; have := of_decide_eq_true h; omega
      · rw [if_neg g2] at h
        by_cases g3 : g = 3
        · rw [if_pos g3] at h; have := of_decide_eq_true h; omega
        · rw [if_neg g3] at h
          by_cases g4 : g = 4
          · rw [if_pos g4] at h; have := of_decide_eq_true h; omega
          · rw [if_neg g4] at h; cases h
def rgP (g : Nat) : Nat := if g = 0 then 4 else if g = 1 then 5 else if g = 2 then 6 else if g = 3 then 1 else 2
theorem sgc_rk {g x : Nat} (hg : g ≤ 4) (h : sgc g x = true) : rkP x = rgP g ∧ x ≠ 33 ∧ x ≠ 0 := by
  unfold sgc cmc at h
  rcases (by omega : g = 0 ∨ g = 1 ∨ g = 2 ∨ g = 3 ∨ g = 4) with rfl | rfl | rfl | rfl | rfl
  · have h1 : x = 60 ∨ x = 62 ∨ x = 61 := of_decide_eq_true h
    rcases h1 with rfl | rfl | rfl <;> exact ⟨rfl, by decide, by decide⟩
  · have h1 : x = 43 ∨ x = 45 := of_decide_eq_true h
    rcases h1 with rfl | rfl <;> exact ⟨rfl, by decide, by decide⟩
  · have h1 : x = 42 ∨ x = 47 := of_decide_eq_true h
    rcases h1 with rfl | rfl <;> exact ⟨rfl, by decide, by decide⟩
  · have h1 : x = 124 := of_decide_eq_true h
    rw [h1]; exact ⟨rfl, by decide, by decide⟩
  · have h1 : x = 38 := of_decide_eq_true h
    rw [h1]; exact ⟨rfl, by decide, by decide⟩
section CHP
variable {α : Type} {F n i0 g r r' R' : Nat} {t : Nat → Nat} {part : Nat → Option (List α) × Nat} {tk : Nat → α} {rowf : List α → List Nat} {pl : List PR} {c : List Nat}
theorem chn_P (hF : 5000 ≤ F) (T : TXT t n) (hg : g ≤ 4) (hr : rgP g = r) (hrr : r ≤ r') (hR : r < R') (hrow : ∀ a b x, sgc g x = true → rowf (a ++ b ++ [tk x]) = rowf a ++ rowf b ++ [x]) (hl : ltp pl) (tp : tpP r pl) (hgd : ∀ i, i ≤ n → GD n i (part i) (fun _ _ => True))
    (hpart : ∀ i m u s pl2 c2 cc, i0 ≤ i → i ≤ n → 100 ≤ m + u → (part i).1 = some cc → dgt (t (part i).2) = false → PP t n s pl2 c2 i u → tpP R' pl2 → RP F t n r' pl2 c2 (rowf cc) (TP F n m s i u) s (m + u) (part i).2) :
    ∀ k acc i m u s pl' c' cc, i0 ≤ i → i ≤ n → 100 ≤ m + u → u ≤ i → (chn t part (sgc g) tk k acc i).1 = some cc → dgt (t (chn t part (sgc g) tk k acc i).2) = false → CB s pl' c' → CX2 t n s → gI s 1669 = io 1 → c'.length + pl'.length ≤ 2 * i → pl'.length ≤ i → DP r pl c (rowf acc) pl' c' →
    RP F t n r pl c (rowf cc) (TP F n m s i u) s (m + u) (chn t part (sgc g) tk k acc i).2 := by
  have hn := T.1
  have hr1 : 1 ≤ r ∧ r ≤ 6 := by rw [← hr]; unfold rgP; repeat (first | omega | split)
  intro k
  induction k with
  | zero =>
    intro acc i m u s pl' c' cc h0 hi hm hu hc hd H X h9 hz hp D
    cases hc
    exact ⟨s, m, u, pl', c', rfl, rfl, hu, FC.rf, H, h9, hz, hp, D⟩
  | succ k ih =>
    intro acc i m u s pl' c' cc h0 hi hm hu hc hd H X h9 hz hp D
    unfold chn at hc hd ⊢
    by_cases h : sgc g (t i) = true
    · rw [if_pos h] at hc hd ⊢
      obtain ⟨k1, k2, k3⟩ := sgc_rk hg h
      have i1 : i < n := T.in k3
      have hl' := D.q hr1.1 hl
      obtain ⟨pd, d1, d2, d3⟩ := D
      obtain ⟨s1, a1, a2, a3, a4⟩ := signC (F := F) hF T X H i1 rfl (k1.trans hr) hr1.1 hr1.2 k2 (fun _ => h9) d1 d2 d3 tp hl' hp hz
      obtain ⟨g1, g2, g3⟩ := hgd (i + 1) i1
      cases hq : (part (i + 1)).1 with
      | none => rw [hq] at hc; cases hc
      | some c2 =>
        rw [hq] at hc hd
        dsimp only at hc hd ⊢
        obtain ⟨y1, y2, -⟩ := g3 c2 hq
        have hdj := chn_dg (fun x hx => sgc_dg hx) hd
        have hlen : c'.length + pl'.length = (c ++ rowf acc).length + pl.length := by
          have := congrArg List.length d2
          rw [List.length_append, List.length_map] at this
          rw [d1, List.length_append]; omega
        have hpl : pl.length ≤ i := by rw [d1, List.length_append] at hp; omega
        have P2 : PP t n s1 ((t i, (c ++ rowf acc).length) :: pl) (c ++ rowf acc) (i + 1) (u + 1) := ⟨a3, a2.cx X, a4, by show (c ++ rowf acc).length + (pl.length + 1) ≤ 2 * (i + 1); omega, by show pl.length + 1 ≤ i + 1; omega, fun y hy => by
          rcases List.mem_cons.mp hy with h | h
          · rw [h]; exact tlt T
          · exact hl y h, by omega⟩
        obtain ⟨s3, m3, u3, pl3, c3, b1, b2, b3, b4, b5, b6, b7, b8, pd3, b9, b10, b11⟩ := hpart (i + 1) (m - 1) (u + 1) s1 _ _ c2 (by omega) i1 (by omega) hq hdj P2 (fun y w e => by cases e; show rkP (t i) < R'; omega)
        have D3 : DP r pl c (rowf (acc ++ c2 ++ [tk (t i)])) pl3 c3 := by
          refine ⟨pd3 ++ [(t i, (c ++ rowf acc).length)], by rw [b9, List.append_assoc]; rfl, ?_, fun y hy => ?_⟩
          · rw [List.map_append, ← List.append_assoc, b10, hrow _ _ _ h]
            simp only [List.append_assoc, List.map_cons, List.map_nil]
          · rcases List.mem_append.mp hy with hy | hy
            · have := b11 y hy; omega
            · rw [List.mem_singleton.mp hy]; show r ≤ rkP (t i); omega
        have hh := ih (acc ++ c2 ++ [tk (t i)]) (part (i + 1)).2 m3 u3 s3 pl3 c3 cc (by omega) g2 (by omega) b3 hc hd b5 ((a2.trans b4).cx X) b6 b7 b8 D3
        rw [b2] at hh
        rw [TP_step hn i1 hu (by omega) a1, b1]
        rw [show m - 1 + (u + 1) = m + u by omega] at hh
        exact hh.pre (a2.trans b4)
    · rw [if_neg h] at hc hd ⊢
      cases hc
      exact ⟨s, m, u, pl', c', rfl, rfl, hu, FC.rf, H, h9, hz, hp, D⟩
theorem chain_P (hF : 5000 ≤ F) (T : TXT t n) (hg : g ≤ 4) (hr : rgP g = r) (hrr : r ≤ r') (hR : r < R') (hrow : ∀ a b x, sgc g x = true → rowf (a ++ b ++ [tk x]) = rowf a ++ rowf b ++ [x]) (tp : tpP r pl) (hgd : ∀ i, i ≤ n → GD n i (part i) (fun _ _ => True))
    (hpart : ∀ i m u s pl2 c2 cc, i0 ≤ i → i ≤ n → 100 ≤ m + u → (part i).1 = some cc → dgt (t (part i).2) = false → PP t n s pl2 c2 i u → tpP R' pl2 → RP F t n r' pl2 c2 (rowf cc) (TP F n m s i u) s (m + u) (part i).2)
    {most m u : Nat} {s : St} {cc : List α} (hi : i0 ≤ n) (hm : 100 ≤ m + u) (hc : (chain t part (sgc g) tk most i0).1 = some cc) (hd : dgt (t (chain t part (sgc g) tk most i0).2) = false) (P : PP t n s pl c i0 u) : RP F t n r pl c (rowf cc) (TP F n m s i0 u) s (m + u) (chain t part (sgc g) tk most i0).2 := by
  unfold chain at hc hd ⊢
  obtain ⟨g1, g2, g3⟩ := hgd i0 hi
  cases hq : (part i0).1 with
  | none => rw [hq] at hc; cases hc
  | some c2 =>
    rw [hq] at hc hd
    dsimp only at hc hd ⊢
    obtain ⟨y1, y2, -⟩ := g3 c2 hq
    have hdj := chn_dg (fun x hx => sgc_dg hx) hd
    obtain ⟨s3, m3, u3, pl3, c3, b1, b2, b3, b4, b5, b6, b7, b8, pd3, b9, b10, b11⟩ := hpart i0 m u s pl c c2 (Nat.le_refl _) hi hm hq hdj P (fun y w e => by have := tp y w e; omega)
    have hh := (chn_P (F := F) hF T hg hr hrr hR hrow P.2.2.2.2.2.1 tp hgd hpart most c2 (part i0).2 m3 u3 s3 pl3 c3 cc (by omega) g2 (by omega) b3 hc hd b5 (b4.cx P.2.1) b6 b7 b8 ⟨pd3, b9, b10, fun y hy => by have := b11 y hy; omega⟩).pre b4
    rw [b2] at hh
    rw [b1]
    exact hh
end CHP
section PCS
variable {F n : Nat} {t : Nat → Nat}
/-- a char that is only pushed -/
theorem pushP {i u y : Nat} {s : St} {pl : List PR} {c : List Nat} (T : TXT t n) (P : PP t n s pl c i u) (hi : i < n) (hx : (t i = 33 ∧ y = 33) ∨ (t i = 40 ∧ y = 40) ∨ (t i = 45 ∧ y = 126)) : ∃ s', f_Coder_turnPart F s (io i) (io n) = some (io (i + 1), s') ∧ FC s s' ∧ PP t n s' ((y, c.length) :: pl) c (i + 1) (u + 1) := by
  have hn := T.1
  obtain ⟨H, X, h9, hz, hp, hl, hu⟩ := P
  obtain ⟨s1, a1, a2, a3, a4⟩ := push_eq (F := F) (x := y) H (by omega)
  have hlt : y < 1000 := by omega
  have mk : ∀ s', FC s s' → CB s' ((y, c.length) :: pl) c → gI s' 1669 = io 0 → PP t n s' ((y, c.length) :: pl) c (i + 1) (u + 1) := fun s' f h g => ⟨h, f.cx X, g, by show c.length + (pl.length + 1) ≤ 2 * (i + 1); omega, by show pl.length + 1 ≤ i + 1; omega, fun z hz => by
    rcases List.mem_cons.mp hz with h | h
    · rw [h]; exact hlt
    · exact hl z h, by omega⟩
  rcases hx with ⟨e, rfl⟩ | ⟨e, rfl⟩ | ⟨e, rfl⟩
  · refine ⟨sI s1 1669 (io 0), ?_, a2.I (by decide), mk _ (a2.I (by decide)) a3.I9 rfl⟩
    rw [part_pre T X hi, e, if_neg (by decide), if_neg (by decide), if_neg (by decide), if_neg (by decide), if_neg (by decide)]
    simp (disch := omega) only [f_Coder_turnSign, f_Coder_turnSign_b19, Option.bind_some, Nat.reduceEqDiff, Nat.add_zero, Nat.zero_add, Nat.reduceLT, Nat.reduceLeDiff, Nat.reduceAdd, Nat.reduceSub, Nat.reduceMul, Nat.reduceDiv, Nat.lt_irrefl, Nat.not_lt_zero, Nat.zero_le, Nat.one_ne_zero, Nat.succ_ne_zero,  lt_def, i32_lit, reduceIte, P_isIn_eq, or_false, false_or, or_true, true_or, and_true, true_and, and_false, false_and, not_true, not_false_eq_true, eq_self, if_true, if_false, not_or, not_and, Nat.not_lt, Nat.not_le, io_eq, a1]
  · refine ⟨s1, ?_, a2, mk _ a2 a3 (by rw [a4]; exact h9)⟩
    rw [part_pre T X hi, e, if_neg (by decide), if_neg (by decide), if_neg (by decide), if_pos rfl, a1]
    rfl
  · refine ⟨sI s1 1669 (io 0), ?_, a2.I (by decide), mk _ (a2.I (by decide)) a3.I9 rfl⟩
    rw [part_pre T X hi, e, if_neg (by decide), if_neg (by decide), if_neg (by decide), if_neg (by decide), if_neg (by decide)]
    simp (disch := omega) only [f_Coder_turnSign, f_Coder_turnSign_b19, Option.bind_some, Nat.reduceEqDiff, Nat.add_zero, Nat.zero_add, Nat.reduceLT, Nat.reduceLeDiff, Nat.reduceAdd, Nat.reduceSub, Nat.reduceMul, Nat.reduceDiv, Nat.lt_irrefl, Nat.not_lt_zero, Nat.zero_le, Nat.one_ne_zero, Nat.succ_ne_zero,  lt_def, i32_lit, reduceIte, P_isIn_eq, or_false, false_or, or_true, true_or, and_true, true_and, and_false, false_and, not_true, not_false_eq_true, eq_self, if_true, if_false, not_or, not_and, Nat.not_lt, Nat.not_le, io_eq, h9, a1]
theorem cmpP {i m u : Nat} {s : St} {pl : List PR} {c : List Nat} {cc : List CT} (hF : 5000 ≤ F) (T : TXT t n) (hm : 100 ≤ m + u) (P : PP t n s pl c i u) (tp : tpP 4 pl) (hi : i ≤ n) (hc : (pCmp t i).1 = some cc) (hd : dgt (t (pCmp t i).2) = false) : RP F t n 3 pl c (chrow cc) (TP F n m s i u) s (m + u) (pCmp t i).2 := by
  have hn := T.1
  unfold pCmp at hc hd ⊢
  by_cases hf : fdc (t i) = true
  · rw [if_pos hf] at hc hd ⊢
    have i1 := T.bin hf
    by_cases hs : cmc (t (i + 1)) = true
    · rw [if_pos hs] at hc hd ⊢
      have i2 := T.bin hs
      obtain ⟨H, X, h9, hz, hp, hl, hu⟩ := P
      have nd : ¬ dgt (t i) = true := fun h => by
        unfold dgt at h; unfold fdc at hf
        have e1 := of_decide_eq_true h
        have e2 := of_decide_eq_true hf
        omega
      have na : ¬ agc (t i) = true := fun h => by
        unfold agc at h; unfold fdc at hf
        have e1 := of_decide_eq_true h
        have e2 := of_decide_eq_true hf
        omega
      obtain ⟨s1, a1, a2, a3, a4⟩ := put_eq (F := F) (x := t i) H (by omega)
      have st1 : f_Coder_turnPart F s (io i) (io n) = some (io (i + 1), s1) := by
        rw [part_pre T X i1, if_neg nd, if_neg na, if_pos hf, a1]; rfl
      have hrk : rkP (t (i + 1)) = 4 := (sgc_rk (g := 0) (by omega) hs).1
      have n33 := (sgc_rk (g := 0) (by omega) hs).2.1
      have n45 : t (i + 1) ≠ 45 := fun e => by rw [e] at hs; exact absurd hs (by decide)
      obtain ⟨s2, b1, b2, b3, b4⟩ := signC (F := F) (pl := pl) (pd := []) (c := c) (e := [t i]) hF T (a2.cx X) a3 i2 rfl hrk (by omega) (by omega) n33 (fun e => absurd e n45) rfl (by rw [List.map_nil, List.append_nil]) (fun y hy => (List.not_mem_nil hy).elim) tp hl (by omega) (by rw [List.length_append]; show c.length + 1 + pl.length ≤ 2 * (i + 1); omega)
      have e2 : TP F n m s i u = TP F n (m - 1 - 1) s2 (i + 2) (u + 1 + 1) := by
        rw [TP_step hn i1 hu (by omega) st1, TP_step hn i2 (by omega) (by omega) b1]
      have P2 : PP t n s2 ((t (i + 1), (c ++ [t i]).length) :: pl) (c ++ [t i]) (i + 2) (u + 1 + 1) := ⟨b3, (a2.trans b2).cx X, b4, by rw [List.length_append]; show c.length + 1 + (pl.length + 1) ≤ 2 * (i + 2); omega, by show pl.length + 1 ≤ i + 2; omega, fun y hy => by
        rcases List.mem_cons.mp hy with h | h
        · rw [h]; exact tlt T
        · exact hl y h, by omega⟩
      have fin : ∀ b j s3 pd3, b ≤ 1 → j ≤ n → i + 2 + b ≤ j → FC s s3 → PP t n s3 (pd3 ++ (t (i + 1), (c ++ [t i]).length) :: pl) (c ++ [t i]) j (u + 2 + b) → pd3.map Prod.fst = (if b = 1 then [126] else []) → (∀ y ∈ pd3, 3 ≤ rkP y.1) → TP F n m s i u = TP F n (m - 2 - b) s3 j (u + 2 + b) →
          (cmpE (t (i + 1)) (t i) b (pNum t j)).1 = some cc → dgt (t (cmpE (t (i + 1)) (t i) b (pNum t j)).2) = false → RP F t n 3 pl c (chrow cc) (TP F n m s i u) s (m + u) (cmpE (t (i + 1)) (t i) b (pNum t j)).2 := by
        intro b j s3 pd3 hb hjn hij fs P3 hpd hpr eT hcc hdd
        obtain ⟨H3, X3, h93, hz3, hp3, hl3, hu3⟩ := P3
        unfold cmpE at hcc hdd ⊢
        have gnum := num_gd T hjn
        cases hv : (pNum t j).1 with
        | none => rw [hv] at hcc; cases hcc
        | some v =>
          rw [hv] at hcc hdd
          dsimp only at hcc hdd ⊢
          cases hcc
          have hvj := (gnum.2.2 v hv).1
          rw [List.length_append, List.length_append] at hz3
          have hz3' : c.length + 1 + (pd3.length + (pl.length + 1)) ≤ 2 * j := hz3
          obtain ⟨j1, s4, d1, d2, d3, d4⟩ := numC (F := F) hF T X3 H3 (by rw [List.length_append]; show c.length + 1 ≤ 78; omega) hjn hv hdd
          refine ⟨s4, m - 2 - b - 1, u + 2 + b + 1, _, _, by rw [eT, TP_step hn j1 hu3 (by omega) d1], by omega, by omega, fs.trans d2, d3, d4, ?_, ?_, pd3 ++ [(t (i + 1), (c ++ [t i]).length)], by rw [List.append_assoc]; rfl, ?_, fun y hy => ?_⟩
          · rw [List.length_append, List.length_append, List.length_append]
            show c.length + 1 + 2 + (pd3.length + (pl.length + 1)) ≤ 2 * (pNum t j).2
            omega
          · rw [List.length_append]
            rw [List.length_append] at hp3
            have hp3' : pd3.length + (pl.length + 1) ≤ j := hp3
            show pd3.length + (pl.length + 1) ≤ (pNum t j).2
            omega
          · rw [chrow_one, List.map_append, hpd]
            unfold chr1
            rw [if_pos hs]
            simp only [List.append_assoc, List.map_cons, List.map_nil, List.cons_append, List.nil_append]
          · rcases List.mem_append.mp hy with hy | hy
            · exact hpr y hy
            · rw [List.mem_singleton.mp hy]; show 3 ≤ rkP (t (i + 1)); omega
      by_cases h45 : t (i + 2) = 45
      · rw [if_pos h45] at hc hd ⊢
        have i3 := T.in' h45
        obtain ⟨s3, d1, d2, d3⟩ := pushP (F := F) (y := 126) T P2 i3 (Or.inr (Or.inr ⟨h45, rfl⟩))
        refine fin 1 (i + 3) s3 [(126, (c ++ [t i]).length)] (by omega) i3 (by omega) ((a2.trans b2).trans d2) d3 rfl (fun y hy => by rw [List.mem_singleton.mp hy]; show 3 ≤ rkP 126; decide) ?_ hc hd
        rw [e2, TP_step hn i3 (by omega) (by omega) d1]
        rfl
      · rw [if_neg h45] at hc hd ⊢
        exact fin 0 (i + 2) s2 [] (by omega) i2 (by omega) (a2.trans b2) P2 rfl (fun y hy => (List.not_mem_nil hy).elim) e2 hc hd
    · rw [if_neg hs] at hc; cases hc
  · rw [if_neg hf] at hc; cases hc
def tpg (g : Nat) : Nat := if g = 3 then 1 else if g = 4 then 2 else 4
theorem PCC (hF : 5000 ≤ F) (T : TXT t n) : ∀ d g i m u s pl c cc, (g = 3 ∨ g = 4 ∨ g = 5) → i ≤ n → 100 ≤ m + u → (pC t d g i).1 = some cc → dgt (t (pC t d g i).2) = false → PP t n s pl c i u → tpP (tpg g) pl → RP F t n (g - 2) pl c (chrow cc) (TP F n m s i u) s (m + u) (pC t d g i).2 := by
  have hn := T.1
  have hrow : ∀ g, (g = 3 ∨ g = 4) → ∀ a b x, sgc g x = true → chrow (a ++ b ++ [tkC x]) = chrow a ++ chrow b ++ [x] := by
    intro g hg a b x hx
    rw [chrow_app, chrow_app, chrow_one]
    unfold chr1 tkC
    have hx' : x = 124 ∨ x = 38 := by
      rcases hg with rfl | rfl
      · exact Or.inl (of_decide_eq_true hx)
      · exact Or.inr (of_decide_eq_true hx)
    rcases hx' with rfl | rfl <;> rfl
  intro d
  induction d with
  | zero => intro g i m u s pl c cc hg hi hm hc; cases hc
  | succ d ih =>
    intro g i m u s pl c cc hg hi hm hc hd P tp
    rcases hg with rfl | rfl | rfl
    · exact chain_P (r := 1) (r' := 2) (R' := 2) hF T (by omega) rfl (by omega) (by omega) (hrow 3 (Or.inl rfl)) tp (fun i hi => (pC_gd T d 4 i (by omega) hi).tt) (fun i m u s pl2 c2 cc h1 h2 h3 h4 h5 h6 h7 => ih 4 i m u s pl2 c2 cc (by omega) h2 h3 h4 h5 h6 h7) hi hm hc hd P
    · exact chain_P (r := 2) (r' := 3) (R' := 4) hF T (by omega) rfl (by omega) (by omega) (hrow 4 (Or.inr rfl)) tp (fun i hi => (pC_gd T d 5 i (by omega) hi).tt) (fun i m u s pl2 c2 cc h1 h2 h3 h4 h5 h6 h7 => ih 5 i m u s pl2 c2 cc (by omega) h2 h3 h4 h5 h6 h7) hi hm hc hd P
    · have hc' : (if t i = 33 then post (tkC 33) (pC t d 5 (i + 1)) else if t i = 40 then clo t (pC t d 3 (i + 1)) else pCmp t i).1 = some cc := hc
      have hd' : dgt (t (if t i = 33 then post (tkC 33) (pC t d 5 (i + 1)) else if t i = 40 then clo t (pC t d 3 (i + 1)) else pCmp t i).2) = false := hd
      show RP F t n 3 pl c (chrow cc) (TP F n m s i u) s (m + u) (if t i = 33 then post (tkC 33) (pC t d 5 (i + 1)) else if t i = 40 then clo t (pC t d 3 (i + 1)) else pCmp t i).2
      have hu := P.2.2.2.2.2.2
      by_cases h1 : t i = 33
      · rw [if_pos h1] at hc' hd' ⊢
        have i1 := T.in' h1
        obtain ⟨s1, a1, a2, a3⟩ := pushP (F := F) (y := 33) T P i1 (Or.inl ⟨h1, rfl⟩)
        unfold post at hc' hd' ⊢
        cases hq : (pC t d 5 (i + 1)).1 with
        | none => rw [hq] at hc'; cases hc'
        | some c2 =>
          rw [hq] at hc' hd'
          dsimp only at hc' hd' ⊢
          cases hc'
          have h := ih 5 (i + 1) (m - 1) (u + 1) s1 _ c c2 (by omega) i1 (by omega) hq hd' a3 (fun y w e => by cases e; show rkP 33 < 4; decide)
          rw [show m - 1 + (u + 1) = m + u by omega] at h
          obtain ⟨s3, m3, u3, pl3, c3, b1, b2, b3, b4, b5, b6, b7, b8, pd3, b9, b10, b11⟩ := h.pre a2
          refine ⟨s3, m3, u3, pl3, c3, by rw [TP_step hn i1 hu (by omega) a1, b1], b2, b3, b4, b5, b6, b7, b8, pd3 ++ [(33, c.length)], by rw [b9, List.append_assoc]; rfl, ?_, fun y hy => ?_⟩
          · rw [List.map_append, ← List.append_assoc, b10, chrow_app, chrow_one, List.append_assoc]; rfl
          · rcases List.mem_append.mp hy with hy | hy
            · exact b11 y hy
            · rw [List.mem_singleton.mp hy]; show 3 ≤ rkP 33; decide
      · rw [if_neg h1] at hc' hd' ⊢
        by_cases h2 : t i = 40
        · rw [if_pos h2] at hc' hd' ⊢
          have i1 := T.in' h2
          obtain ⟨s1, a1, a2, a3⟩ := pushP (F := F) (y := 40) T P i1 (Or.inr (Or.inl ⟨h2, rfl⟩))
          obtain ⟨g1, g2, g3⟩ := pC_gd T d 3 (i + 1) (by omega) i1
          unfold clo at hc' hd' ⊢
          cases hq : (pC t d 3 (i + 1)).1 with
          | none => rw [hq] at hc'; cases hc'
          | some c2 =>
            rw [hq] at hc' hd'
            dsimp only at hc' hd' ⊢
            by_cases h41 : t (pC t d 3 (i + 1)).2 = 41
            · rw [if_pos h41] at hc' hd' ⊢
              cases hc'
              have j1 := T.in' h41
              have y1 := (g3 cc hq).1
              have h := ih 3 (i + 1) (m - 1) (u + 1) s1 _ c cc (by omega) i1 (by omega) hq (by rw [h41]; decide) a3 (fun y w e => by cases e; show rkP 40 < 1; decide)
              rw [show m - 1 + (u + 1) = m + u by omega] at h
              obtain ⟨s3, m3, u3, pl3, c3, b1, b2, b3, b4, b5, b6, b7, b8, b9⟩ := h.pre a2
              have hl3 := b9.q (by omega) a3.2.2.2.2.2.1
              obtain ⟨pd3, b9, b10, b11⟩ := b9
              obtain ⟨s4, d1, d2, d3, d4⟩ := closeP (F := F) hF T (b4.cx P.2.1) b5 j1 h41 b9 b10 b11 hl3 b8 b7
              have hlen : c3.length + pl3.length = (c ++ chrow cc).length + (pl.length + 1) := by
                have := congrArg List.length b10
                rw [List.length_append, List.length_map] at this
                rw [b9, List.length_append]
                show c3.length + (pd3.length + (pl.length + 1)) = _
                omega
              refine ⟨s4, m3 - 1, u3 + 1, pl, c ++ chrow cc, by rw [TP_step hn i1 hu (by omega) a1, b1, TP_step hn j1 b3 (by omega) d1], by omega, by show u3 + 1 ≤ (pC t d 3 (i + 1)).2 + 1; omega, b4.trans d2, d3, d4, by show (c ++ chrow cc).length + pl.length ≤ 2 * ((pC t d 3 (i + 1)).2 + 1); omega, ?_, [], rfl, List.append_nil _, fun y hy => (List.not_mem_nil hy).elim⟩
              have := P.2.2.2.2.1
              show pl.length ≤ (pC t d 3 (i + 1)).2 + 1
              omega
            · rw [if_neg h41] at hc'; cases hc'
        · rw [if_neg h2] at hc' hd' ⊢
          exact cmpP hF T hm P tp hi hc' hd'
/-- an aggregate is opened -/
theorem openP {i u f i2 : Nat} {s : St} {pl : List PR} {c : List Nat} (T : TXT t n) (P : PP t n s pl c i u) (hk : agc (t i) = true) (hi2 : (fdc (t (i + 2)) = false ∧ f = 0 ∧ i2 = i + 2 ∧ i + 2 < n) ∨ (fdc (t (i + 2)) = true ∧ f = t (i + 2) ∧ i2 = i + 3)) (hi3 : i2 ≤ n) :
    ∃ s', f_Coder_turnPart F s (io i) (io n) = some (io (if t i2 = 58 then i2 + 1 else i2), s') ∧ FC s s' ∧ PP t n s' ((t i, c.length) :: pl) (c ++ [t i, f, 0]) (if t i2 = 58 then i2 + 1 else i2) (u + 1) := by
  have hn := T.1
  obtain ⟨H, X, h9, hz, hp, hl, hu⟩ := P
  have i1 := T.bin hk
  have i2n : i + 2 < n := by
    rcases hi2 with h | h
    · exact h.2.2.2
    · exact T.bin h.1
  have nd : ¬ dgt (t i) = true := fun h => by
    unfold dgt at h; unfold agc at hk
    have e1 := of_decide_eq_true h
    have e2 := of_decide_eq_true hk
    omega
  obtain ⟨s1, a1, a2, a3, a4⟩ := push_eq (F := F) (x := t i) H (by omega)
  obtain ⟨s2, b1, b2, b3, b4⟩ := put_eq (F := F) (x := t i) a3 (by omega)
  obtain ⟨s3, d1, d2, d3, d4⟩ := put_eq (F := F) (x := f) b3 (by rw [List.length_append]; show c.length + 1 ≤ 79; omega)
  obtain ⟨s4, e1, e2, e3, e4⟩ := put_eq (F := F) (x := 0) d3 (by rw [List.length_append, List.length_append]; show c.length + 1 + 1 ≤ 79; omega)
  have fc : FC s s4 := ((a2.trans b2).trans d2).trans e2
  have e3' : CB s4 ((t i, c.length) :: pl) (c ++ [t i, f, 0]) := by
    rw [List.append_assoc, List.append_assoc] at e3; exact e3
  have h94 : gI s4 1669 = io 0 := by rw [e4, d4, b4, a4]; exact h9
  refine ⟨s4, ?_, fc, e3', fc.cx X, h94, ?_, ?_, fun y hy => ?_, ?_⟩
  · rw [part_pre T X i1, if_neg nd, if_pos hk]
    have ex := X i i1
    have ex1 : gA s1 1 i = io (t i) := by rw [a2.1.ga 1 (by decide)]; exact ex
    have ex2 : gA s2 1 (i + 2) = io (t (i + 2)) := by rw [(a2.trans b2).1.ga 1 (by decide)]; exact X (i + 2) i2n
    have hf := isField_eq (F := F) (s := s2) (tlt (i := i + 2) T)
    have n0 : ¬ i < 0 := by omega
    have n1 : ¬ n ≤ i + 2 := by omega
    have n2 : i + 2 < 40 := by omega
    have eb : f_Coder_openAggregate_b60 F s2 (io n) (io i2) (io f) = some (io (if t i2 = 58 then i2 + 1 else i2), s4) := by
      by_cases hin : n ≤ i2
      · have : t i2 = 0 := T.2.2 i2 hin
        rw [if_neg (by rw [this]; decide)]
        simp (disch := omega) only [f_Coder_openAggregate_b60, Option.bind_some, Nat.reduceEqDiff, Nat.add_zero, Nat.zero_add, Nat.reduceLT, Nat.reduceLeDiff, Nat.reduceAdd, Nat.reduceSub, Nat.reduceMul, Nat.reduceDiv, Nat.lt_irrefl, Nat.not_lt_zero, Nat.zero_le, Nat.one_ne_zero, Nat.succ_ne_zero,  lt_def, i32_lit, reduceIte, P_isIn_eq, or_false, false_or, or_true, true_or, and_true, true_and, and_false, false_and, not_true, not_false_eq_true, eq_self, if_true, if_false, not_or, not_and, Nat.not_lt, Nat.not_le, d1, e1, io_le, hin]
      · have n3 : ¬ 40 ≤ i2 := by omega
        have ex4 : gA s4 1 i2 = io (t i2) := by rw [fc.1.ga 1 (by decide)]; exact X i2 (by omega)
        have ht2 := tlt (i := i2) T
        by_cases h58 : t i2 = 58
        · simp (disch := omega) only [f_Coder_openAggregate_b60, Option.bind_some, Nat.reduceEqDiff, Nat.add_zero, Nat.zero_add, Nat.reduceLT, Nat.reduceLeDiff, Nat.reduceAdd, Nat.reduceSub, Nat.reduceMul, Nat.reduceDiv, Nat.lt_irrefl, Nat.not_lt_zero, Nat.zero_le, Nat.one_ne_zero, Nat.succ_ne_zero,  lt_def, i32_lit, reduceIte, P_isIn_eq, or_false, false_or, or_true, true_or, and_true, true_and, and_false, false_and, not_true, not_false_eq_true, eq_self, if_true, if_false, not_or, not_and, Nat.not_lt, Nat.not_le, d1, e1, io_le, hin, n3, ix_io, ex4, h58, io_eq, io_add]
        · simp (disch := omega) only [f_Coder_openAggregate_b60, Option.bind_some, Nat.reduceEqDiff, Nat.add_zero, Nat.zero_add, Nat.reduceLT, Nat.reduceLeDiff, Nat.reduceAdd, Nat.reduceSub, Nat.reduceMul, Nat.reduceDiv, Nat.lt_irrefl, Nat.not_lt_zero, Nat.zero_le, Nat.one_ne_zero, Nat.succ_ne_zero,  lt_def, i32_lit, reduceIte, P_isIn_eq, or_false, false_or, or_true, true_or, and_true, true_and, and_false, false_and, not_true, not_false_eq_true, eq_self, if_true, if_false, not_or, not_and, Nat.not_lt, Nat.not_le, d1, e1, io_le, hin, n3, ix_io, ex4, h58, io_eq]
    rcases hi2 with ⟨q1, q2, q3, -⟩ | ⟨q1, q2, q3⟩
    · rw [if_neg (by rw [q1]; decide)] at hf
      rw [q2, q3] at eb
      simp (disch := omega) only [f_Coder_openAggregate, Option.bind_some, Nat.reduceEqDiff, Nat.add_zero, Nat.zero_add, Nat.reduceLT, Nat.reduceLeDiff, Nat.reduceAdd, Nat.reduceSub, Nat.reduceMul, Nat.reduceDiv, Nat.lt_irrefl, Nat.not_lt_zero, Nat.zero_le, Nat.one_ne_zero, Nat.succ_ne_zero,  lt_def, i32_lit, reduceIte, P_isIn_eq, or_false, false_or, or_true, true_or, and_true, true_and, and_false, false_and, not_true, not_false_eq_true, eq_self, if_true, if_false, not_or, not_and, Nat.not_lt, Nat.not_le, io_lt, n0, io_add, io_le, n1, n2, ix_io, ex, a1, ex1, b1, ex2, hf, eb]
      rw [q3]
    · rw [if_pos q1] at hf
      rw [q2, q3] at eb
      simp (disch := omega) only [f_Coder_openAggregate, Option.bind_some, Nat.reduceEqDiff, Nat.add_zero, Nat.zero_add, Nat.reduceLT, Nat.reduceLeDiff, Nat.reduceAdd, Nat.reduceSub, Nat.reduceMul, Nat.reduceDiv, Nat.lt_irrefl, Nat.not_lt_zero, Nat.zero_le, Nat.one_ne_zero, Nat.succ_ne_zero,  lt_def, i32_lit, reduceIte, P_isIn_eq, or_false, false_or, or_true, true_or, and_true, true_and, and_false, false_and, not_true, not_false_eq_true, eq_self, if_true, if_false, not_or, not_and, Nat.not_lt, Nat.not_le, io_lt, n0, io_add, io_le, n1, n2, ix_io, ex, a1, ex1, b1, ex2, hf, io_eq, eb]
      rw [q3]
  · rw [List.length_append]
    show c.length + 3 + (pl.length + 1) ≤ 2 * _
    by_cases h58 : t i2 = 58
    · rw [if_pos h58]; omega
    · rw [if_neg h58]; omega
  · show pl.length + 1 ≤ _
    by_cases h58 : t i2 = 58
    · rw [if_pos h58]; omega
    · rw [if_neg h58]; omega
  · rcases List.mem_cons.mp hy with h | h
    · rw [h]; exact tlt T
    · exact hl y h
  · by_cases h58 : t i2 = 58
    · rw [if_pos h58]; omega
    · rw [if_neg h58]; omega
/-- an aggregate's bracket ends -/
theorem closeA {i k f : Nat} (hF : 5000 ≤ F) (T : TXT t n) {pl pl' pd : List PR} {c c' rw : List Nat} {s : St} (X : CX2 t n s) (H : CB s pl' c') (hi : i < n) (hx : t i = 41) (hk : agc k = true) (e1 : pl' = pd ++ (k, c.length) :: pl) (e2 : c' ++ pd.map Prod.fst = (c ++ [k, f, 0]) ++ rw) (e3 : ∀ y ∈ pd, 1 ≤ rkP y.1) (hl : ltp pl') (hp : pl'.length ≤ i) (hc : c'.length + pl'.length ≤ 2 * i) :
    ∃ s', f_Coder_turnPart F s (io i) (io n) = some (io (i + 1), s') ∧ FC s s' ∧ CB s' pl (c ++ ([k, f, rw.length] ++ rw)) ∧ gI s' 1669 = io 1 := by
  have hn := T.1
  have hklt : k < 1000 := by unfold agc at hk; have := of_decide_eq_true hk; omega
  have hk0 : rkP k < 1 := by
    unfold agc at hk
    have := of_decide_eq_true hk
    rcases this with rfl | rfl | rfl | rfl | rfl | rfl <;> decide
  obtain ⟨s1, b1, b2, b3, b4⟩ := settle_eq (F := F) (r := 1) (by omega) pl' F s c' H hl (by omega) (by omega) (by omega)
  rw [e1, flP_all pd _ c' e3 (fun y w h => by cases h; exact hk0), e2] at b3
  have b1' : f_Coder_settle F s (io 1) = some s1 := b1
  have hl1 : pl'.length = pd.length + (pl.length + 1) := by rw [e1, List.length_append]; rfl
  have hl2 : c'.length + pd.length = c.length + 3 + rw.length := by
    have := congrArg List.length e2
    rw [List.length_append, List.length_map, List.length_append, List.length_append] at this
    exact this
  have hlc : (c ++ [k, f, 0] ++ rw).length = c.length + 3 + rw.length := by rw [List.length_append, List.length_append]; rfl
  have g8 : gI s1 1668 = io (pl.length + 1) := b3.1
  have g28 : gA s1 28 pl.length = io k := by have := b3.2.1.1; rw [List.length_map] at this; exact this
  have g29 : gA s1 29 pl.length = io c.length := by have := b3.2.2.1.1; rw [List.length_map] at this; exact this
  have g65 : gI s1 1665 = io (c.length + 3 + rw.length) := by have := b3.2.2.2.1; rw [hlc] at this; exact this
  refine ⟨sA (sI (sI s1 1669 (io 1)) 1668 (io pl.length)) 27 (c.length + 2) (io rw.length), ?_, ((b2.I (by decide)).I (by decide)).A (by decide), ⟨rfl, b3.2.1.2, b3.2.2.1.2, ?_, fun j hj => ?_⟩, rfl⟩
  · rw [part_pre T X hi, if_neg (by rw [hx]; decide), if_neg (by rw [hx]; decide), if_neg (by rw [hx]; decide), if_neg (by rw [hx]; decide), if_pos hx]
    have n1 : ¬ pl.length + 1 < 1 := by omega
    have n2 : ¬ 40 < pl.length + 1 := by omega
    have n3 : ¬ c.length + 3 < 1 := by omega
    have n4 : ¬ c.length + 3 + rw.length < c.length + 3 := by omega
    have n5 : c.length + 3 - 1 = c.length + 2 := by omega
    have n6 : c.length + 3 + rw.length - (c.length + 3) = rw.length := by omega
    have n7 : ¬ 80 < c.length + 3 := by omega
    have hag := isAgg_eq (F := F) (s := sI (sI s1 1669 (io 1)) 1668 (io pl.length)) hklt
    rw [if_pos hk] at hag
    simp (disch := omega) only [f_Coder_close, Option.bind_some, Nat.reduceEqDiff, Nat.add_zero, Nat.zero_add, Nat.reduceLT, Nat.reduceLeDiff, Nat.reduceAdd, Nat.reduceSub, Nat.reduceMul, Nat.reduceDiv, Nat.lt_irrefl, Nat.not_lt_zero, Nat.zero_le, Nat.one_ne_zero, Nat.succ_ne_zero,  lt_def, i32_lit, reduceIte, P_isIn_eq, or_false, false_or, or_true, true_or, and_true, true_and, and_false, false_and, not_true, not_false_eq_true, eq_self, if_true, if_false, not_or, not_and, Nat.not_lt, Nat.not_le, b1', gI_sI, g8, io_lt, n1, n2, io_eq, io_sub, Nat.add_sub_cancel, ix_io, gA_sI, g28, hag, g29, io_add, g65, n3, n4, n5, n6, n7]
  · show gI s1 1665 = _
    rw [g65, List.length_append, List.length_append]
    show io _ = io (c.length + (3 + rw.length))
    congr 1; omega
  · have hset : c ++ ([k, f, rw.length] ++ rw) = (c ++ [k, f, 0] ++ rw).set (c.length + 2) rw.length := by
      rw [List.append_assoc, List.set_append_right _ _ (by omega), show c.length + 2 - c.length = 2 by omega]
      rfl
    simp only [hset] at hj ⊢
    rw [List.length_set] at hj
    rw [List.getElem_set, gA_sA, if_pos rfl]
    by_cases hjj : j = c.length + 2
    · rw [if_pos hjj, if_pos hjj.symm]
    · rw [if_neg hjj, if_neg (fun e => hjj e.symm)]
      exact b3.2.2.2.2 j hj
end PCS
section PQS
variable {F n : Nat} {t : Nat → Nat}
theorem qr1_op {x : Nat} (h : qop x ∨ x = 126) : qr1 (tkQ x) = [x] := by
  unfold qr1 tkQ
  rw [if_neg (by unfold qop at h; show ¬ x = 35; omega), if_neg (by unfold agc; rw [decide_eq_true_eq]; unfold qop at h; show ¬ (x = 100 ∨ _); omega)]
theorem agg2P {d i u m f i2 : Nat} {s : St} {pl : List PR} {c : List Nat} {cq : List QT} (hF : 5000 ≤ F) (T : TXT t n) (hm : 100 ≤ m + u) (P : PP t n s pl c i u) (hk : agc (t i) = true) (hi2 : (fdc (t (i + 2)) = false ∧ f = 0 ∧ i2 = i + 2 ∧ i + 2 < n) ∨ (fdc (t (i + 2)) = true ∧ f = t (i + 2) ∧ i2 = i + 3)) (hi3 : i2 ≤ n) (hc : (pAg2 t d (t i) f i2).1 = some cq) :
    RP F t n 7 pl c (qrow cq) (TP F n m s i u) s (m + u) (pAg2 t d (t i) f i2).2 := by
  have hn := T.1
  have i1 := T.bin hk
  have hu := P.2.2.2.2.2.2
  have hk35 : ¬ t i = 35 := fun e => by rw [e] at hk; exact absurd hk (by decide)
  have hrk : rkP (t i) < 1 := by
    unfold agc at hk
    have := of_decide_eq_true hk
    rcases this with e | e | e | e | e | e <;> rw [e] <;> decide
  obtain ⟨s1, a1, a2, a3⟩ := openP (F := F) T P hk hi2 hi3
  have hi2i : i + 2 ≤ i2 := by omega
  unfold pAg2 at hc ⊢
  by_cases h58 : t i2 = 58
  · rw [if_pos h58] at hc a1 a3 ⊢
    have i21 := T.in' h58
    obtain ⟨g1, g2, g3⟩ := pC_gd T d 3 (i2 + 1) (by omega) i21
    unfold ag2E at hc ⊢
    cases hq : (pC t d 3 (i2 + 1)).1 with
    | none => rw [hq] at hc; cases hc
    | some cc =>
      rw [hq] at hc
      dsimp only at hc ⊢
      unfold clo at hc ⊢
      dsimp only at hc ⊢
      by_cases h41 : t (pC t d 3 (i2 + 1)).2 = 41
      · rw [if_pos h41] at hc ⊢
        cases hc
        have j1 := T.in' h41
        have y1 := (g3 cc hq).1
        have h := PCC (F := F) hF T d 3 (i2 + 1) (m - 1) (u + 1) s1 _ _ cc (by omega) i21 (by omega) hq (by rw [h41]; decide) a3 (fun y w e => by cases e; exact hrk)
        rw [show m - 1 + (u + 1) = m + u by omega] at h
        obtain ⟨s3, m3, u3, pl3, c3, b1, b2, b3, b4, b5, b6, b7, b8, b9⟩ := h.pre a2
        have hl3 := b9.q (by omega) a3.2.2.2.2.2.1
        obtain ⟨pd3, b9, b10, b11⟩ := b9
        obtain ⟨s4, d1, d2, d3, d4⟩ := closeA (F := F) hF T (b4.cx P.2.1) b5 j1 h41 hk b9 b10 b11 hl3 b8 b7
        have hlen : c3.length + pl3.length = (c ++ [t i, f, 0] ++ chrow cc).length + (pl.length + 1) := by
          have := congrArg List.length b10
          rw [List.length_append, List.length_map] at this
          rw [b9, List.length_append]
          show c3.length + (pd3.length + (pl.length + 1)) = _
          omega
        have hlen2 : (c ++ [t i, f, 0] ++ chrow cc).length = c.length + 3 + (chrow cc).length := by rw [List.length_append, List.length_append]; rfl
        have hrow : qrow [(t i, f, some cc)] = [t i, f, (chrow cc).length] ++ chrow cc := by
          rw [qrow_one]
          unfold qr1
          rw [if_neg hk35, if_pos hk]
          rfl
        refine ⟨s4, m3 - 1, u3 + 1, pl, c ++ ([t i, f, (chrow cc).length] ++ chrow cc), by rw [TP_step hn i1 hu (by omega) a1, b1, TP_step hn j1 b3 (by omega) d1], by omega, by show u3 + 1 ≤ (pC t d 3 (i2 + 1)).2 + 1; omega, b4.trans d2, d3, d4, ?_, ?_, [], rfl, ?_, fun y hy => (List.not_mem_nil hy).elim⟩
        · rw [List.length_append, List.length_append]
          show c.length + (3 + (chrow cc).length) + pl.length ≤ 2 * ((pC t d 3 (i2 + 1)).2 + 1)
          omega
        · have := P.2.2.2.2.1
          show pl.length ≤ (pC t d 3 (i2 + 1)).2 + 1
          omega
        · rw [hrow]; exact List.append_nil _
      · rw [if_neg h41] at hc; cases hc
  · rw [if_neg h58] at hc a1 a3 ⊢
    unfold clo at hc ⊢
    dsimp only at hc ⊢
    by_cases h41 : t i2 = 41
    · rw [if_pos h41] at hc ⊢
      cases hc
      have j1 := T.in' h41
      obtain ⟨H, X, h9, hz, hp, hl, hu2⟩ := a3
      obtain ⟨s4, d1, d2, d3, d4⟩ := closeA (F := F) (pd := []) (rw := []) hF T X H j1 h41 hk rfl (by rw [List.map_nil]) (fun y hy => (List.not_mem_nil hy).elim) hl hp hz
      have hrow : qrow [(t i, f, none)] = [t i, f, 0] := by
        rw [qrow_one]
        unfold qr1
        rw [if_neg hk35, if_pos hk]
        rfl
      rw [List.length_append] at hz
      have hz' : c.length + 3 + (pl.length + 1) ≤ 2 * i2 := hz
      refine ⟨s4, m - 1 - 1, u + 1 + 1, pl, c ++ [t i, f, 0], by rw [TP_step hn i1 hu (by omega) a1, TP_step hn j1 hu2 (by omega) d1], by omega, by show u + 1 + 1 ≤ i2 + 1; omega, a2.trans d2, d3, d4, ?_, ?_, [], rfl, ?_, fun y hy => (List.not_mem_nil hy).elim⟩
      · rw [List.length_append]
        show c.length + 3 + pl.length ≤ 2 * (i2 + 1)
        omega
      · have := P.2.2.2.2.1
        show pl.length ≤ i2 + 1
        omega
      · rw [hrow]; exact List.append_nil _
    · rw [if_neg h41] at hc; cases hc
theorem aggP {d i u m : Nat} {s : St} {pl : List PR} {c : List Nat} {cq : List QT} (hF : 5000 ≤ F) (T : TXT t n) (hm : 100 ≤ m + u) (P : PP t n s pl c i u) (hk : agc (t i) = true) (hc : (pAg t d i).1 = some cq) : RP F t n 7 pl c (qrow cq) (TP F n m s i u) s (m + u) (pAg t d i).2 := by
  unfold pAg at hc ⊢
  by_cases h40 : t (i + 1) = 40
  · rw [if_pos h40] at hc ⊢
    have i2 := T.in' h40
    by_cases h110 : t i = 110
    · rw [if_pos h110] at hc ⊢
      have hx : t (i + 2) = 58 ∨ t (i + 2) = 41 := by
        by_cases e1 : t (i + 2) = 58
        · exact Or.inl e1
        · by_cases e2 : t (i + 2) = 41
          · exact Or.inr e2
          · unfold pAg2 clo at hc
            rw [if_neg e1] at hc
            dsimp only at hc
            rw [if_neg e2] at hc; cases hc
      exact agg2P hF T hm P hk (Or.inl ⟨by rcases hx with e | e <;> rw [e] <;> decide, rfl, rfl, by rcases hx with e | e <;> exact T.in' e⟩) i2 hc
    · rw [if_neg h110] at hc ⊢
      by_cases hf : fdc (t (i + 2)) = true
      · rw [if_pos hf] at hc ⊢
        exact agg2P hF T hm P hk (Or.inr ⟨hf, rfl, rfl⟩) (T.bin hf) hc
      · rw [if_neg hf] at hc; cases hc
  · rw [if_neg h40] at hc; cases hc
def qR (g : Nat) : Nat := if g = 6 then 7 else rgP g
theorem PQC (hF : 5000 ≤ F) (T : TXT t n) : ∀ d g i m u s pl c cq, (g = 0 ∨ g = 1 ∨ g = 2 ∨ g = 6) → i ≤ n → 100 ≤ m + u → (pQ t d g i).1 = some cq → dgt (t (pQ t d g i).2) = false → PP t n s pl c i u → (g = 6 ∨ tpP (rgP g) pl) → RP F t n (qR g) pl c (qrow cq) (TP F n m s i u) s (m + u) (pQ t d g i).2 := by
  have hn := T.1
  have hrow : ∀ g, g ≤ 2 → ∀ a b x, sgc g x = true → qrow (a ++ b ++ [tkQ x]) = qrow a ++ qrow b ++ [x] := by
    intro g hg a b x hx
    rw [qrow_app, qrow_app, qrow_one, qr1_op (Or.inl (qop_of hx hg))]
  intro d
  induction d with
  | zero => intro g i m u s pl c cq hg hi hm hc; cases hc
  | succ d ih =>
    intro g i m u s pl c cq hg hi hm hc hd P tp
    rcases hg with rfl | rfl | rfl | rfl
    · exact chain_P (r := 4) (r' := 5) (R' := 5) hF T (by omega) rfl (by omega) (by omega) (hrow 0 (by omega)) (tp.resolve_left (by omega)) (fun i hi => (pQ_gd T d 1 i (by omega) hi).tt) (fun i m u s pl2 c2 cc h1 h2 h3 h4 h5 h6 h7 => ih 1 i m u s pl2 c2 cc (by omega) h2 h3 h4 h5 h6 (Or.inr h7)) hi hm hc hd P
    · exact chain_P (r := 5) (r' := 6) (R' := 6) hF T (by omega) rfl (by omega) (by omega) (hrow 1 (by omega)) (tp.resolve_left (by omega)) (fun i hi => (pQ_gd T d 2 i (by omega) hi).tt) (fun i m u s pl2 c2 cc h1 h2 h3 h4 h5 h6 h7 => ih 2 i m u s pl2 c2 cc (by omega) h2 h3 h4 h5 h6 (Or.inr h7)) hi hm hc hd P
    · exact chain_P (r := 6) (r' := 7) (R' := 7) hF T (by omega) rfl (by omega) (by omega) (hrow 2 (by omega)) (tp.resolve_left (by omega)) (fun i hi => (pQ_gd T d 6 i (by omega) hi).tt) (fun i m u s pl2 c2 cc h1 h2 h3 h4 h5 h6 h7 => ih 6 i m u s pl2 c2 cc (by omega) h2 h3 h4 h5 h6 (Or.inl rfl)) hi hm hc hd P
    · have hc' : (if t i = 45 then post (tkQ 126) (pQ t d 6 (i + 1)) else if t i = 40 then clo t (pQ t d 0 (i + 1)) else if agc (t i) = true then pAg t (d - 1) i else numE (pNum t i)).1 = some cq := hc
      have hd' : dgt (t (if t i = 45 then post (tkQ 126) (pQ t d 6 (i + 1)) else if t i = 40 then clo t (pQ t d 0 (i + 1)) else if agc (t i) = true then pAg t (d - 1) i else numE (pNum t i)).2) = false := hd
      show RP F t n 7 pl c (qrow cq) (TP F n m s i u) s (m + u) (if t i = 45 then post (tkQ 126) (pQ t d 6 (i + 1)) else if t i = 40 then clo t (pQ t d 0 (i + 1)) else if agc (t i) = true then pAg t (d - 1) i else numE (pNum t i)).2
      have hu := P.2.2.2.2.2.2
      by_cases h1 : t i = 45
      · rw [if_pos h1] at hc' hd' ⊢
        have i1 := T.in' h1
        obtain ⟨s1, a1, a2, a3⟩ := pushP (F := F) (y := 126) T P i1 (Or.inr (Or.inr ⟨h1, rfl⟩))
        unfold post at hc' hd' ⊢
        cases hq : (pQ t d 6 (i + 1)).1 with
        | none => rw [hq] at hc'; cases hc'
        | some c2 =>
          rw [hq] at hc' hd'
          dsimp only at hc' hd' ⊢
          cases hc'
          have h : RP F t n 7 ((126, c.length) :: pl) c (qrow c2) (TP F n (m - 1) s1 (i + 1) (u + 1)) s1 (m - 1 + (u + 1)) (pQ t d 6 (i + 1)).2 := ih 6 (i + 1) (m - 1) (u + 1) s1 _ c c2 (by omega) i1 (by omega) hq hd' a3 (Or.inl rfl)
          rw [show m - 1 + (u + 1) = m + u by omega] at h
          obtain ⟨s3, m3, u3, pl3, c3, b1, b2, b3, b4, b5, b6, b7, b8, pd3, b9, b10, b11⟩ := h.pre a2
          refine ⟨s3, m3, u3, pl3, c3, by rw [TP_step hn i1 hu (by omega) a1, b1], b2, b3, b4, b5, b6, b7, b8, pd3 ++ [(126, c.length)], by rw [b9, List.append_assoc]; rfl, ?_, fun y hy => ?_⟩
          · rw [List.map_append, ← List.append_assoc, b10, qrow_app, qrow_one, List.append_assoc, qr1_op (Or.inr rfl)]; rfl
          · rcases List.mem_append.mp hy with hy | hy
            · exact b11 y hy
            · rw [List.mem_singleton.mp hy]; show 7 ≤ rkP 126; decide
      · rw [if_neg h1] at hc' hd' ⊢
        by_cases h2 : t i = 40
        · rw [if_pos h2] at hc' hd' ⊢
          have i1 := T.in' h2
          obtain ⟨s1, a1, a2, a3⟩ := pushP (F := F) (y := 40) T P i1 (Or.inr (Or.inl ⟨h2, rfl⟩))
          obtain ⟨g1, g2, g3⟩ := pQ_gd T d 0 (i + 1) (by omega) i1
          unfold clo at hc' hd' ⊢
          cases hq : (pQ t d 0 (i + 1)).1 with
          | none => rw [hq] at hc'; cases hc'
          | some c2 =>
            rw [hq] at hc' hd'
            dsimp only at hc' hd' ⊢
            by_cases h41 : t (pQ t d 0 (i + 1)).2 = 41
            · rw [if_pos h41] at hc' hd' ⊢
              cases hc'
              have j1 := T.in' h41
              have y1 := (g3 cq hq).1
              have h : RP F t n 4 ((40, c.length) :: pl) c (qrow cq) (TP F n (m - 1) s1 (i + 1) (u + 1)) s1 (m - 1 + (u + 1)) (pQ t d 0 (i + 1)).2 := ih 0 (i + 1) (m - 1) (u + 1) s1 _ c cq (by omega) i1 (by omega) hq (by rw [h41]; decide) a3 (Or.inr (fun y w e => by cases e; show rkP 40 < rgP 0; decide))
              rw [show m - 1 + (u + 1) = m + u by omega] at h
              obtain ⟨s3, m3, u3, pl3, c3, b1, b2, b3, b4, b5, b6, b7, b8, b9⟩ := h.pre a2
              have hl3 := b9.q (by omega) a3.2.2.2.2.2.1
              obtain ⟨pd3, b9, b10, b11⟩ := b9
              obtain ⟨s4, d1, d2, d3, d4⟩ := closeP (F := F) hF T (b4.cx P.2.1) b5 j1 h41 b9 b10 (fun y hy => by have := b11 y hy; omega) hl3 b8 b7
              have hlen : c3.length + pl3.length = (c ++ qrow cq).length + (pl.length + 1) := by
                have := congrArg List.length b10
                rw [List.length_append, List.length_map] at this
                rw [b9, List.length_append]
                show c3.length + (pd3.length + (pl.length + 1)) = _
                omega
              refine ⟨s4, m3 - 1, u3 + 1, pl, c ++ qrow cq, by rw [TP_step hn i1 hu (by omega) a1, b1, TP_step hn j1 b3 (by omega) d1], by omega, by show u3 + 1 ≤ (pQ t d 0 (i + 1)).2 + 1; omega, b4.trans d2, d3, d4, by show (c ++ qrow cq).length + pl.length ≤ 2 * ((pQ t d 0 (i + 1)).2 + 1); omega, ?_, [], rfl, List.append_nil _, fun y hy => (List.not_mem_nil hy).elim⟩
              have := P.2.2.2.2.1
              show pl.length ≤ (pQ t d 0 (i + 1)).2 + 1
              omega
            · rw [if_neg h41] at hc'; cases hc'
        · rw [if_neg h2] at hc' hd' ⊢
          by_cases h3 : agc (t i) = true
          · rw [if_pos h3] at hc' hd' ⊢
            exact aggP hF T hm P h3 hc'
          · rw [if_neg h3] at hc' hd' ⊢
            obtain ⟨H, X, h9, hz, hp, hl, -⟩ := P
            unfold numE at hc' hd' ⊢
            cases hv : (pNum t i).1 with
            | none => rw [hv] at hc'; cases hc'
            | some v =>
              rw [hv] at hc' hd'
              dsimp only at hc' hd' ⊢
              cases hc'
              have gn := num_gd T hi
              have hvj := (gn.2.2 v hv).1
              have hi38 : c.length ≤ 78 := by omega
              obtain ⟨j1, s4, d1, d2, d3, d4⟩ := numC (F := F) hF T X H hi38 hi hv hd'
              refine ⟨s4, m - 1, u + 1, pl, c ++ [35, v], by rw [TP_step hn j1 hu (by omega) d1], by omega, by omega, d2, d3, d4, ?_, by omega, [], rfl, ?_, fun y hy => (List.not_mem_nil hy).elim⟩
              · rw [List.length_append]
                show c.length + 2 + pl.length ≤ 2 * (pNum t i).2
                omega
              · rw [qrow_one, List.map_nil, List.append_nil]
                rfl
/-- a row of codes, as the class keeps it -/
def CR (s : St) (rw : List Nat) : Prop := rw.length ≤ 80 ∧ gI s 1665 = io rw.length ∧ ∀ i (h : i < rw.length), gA s 27 i = io rw[i]
theorem coder_eq (hF : 5000 ≤ F) (T : TXT t n) {s : St} {cq : List QT} (X : CX2 t n s) (hq : ques t n = some cq) : ∃ s', f_Coder_turn F s (io n) = some s' ∧ FC s s' ∧ CR s' (qrow cq) := by
  have hn := T.1
  obtain ⟨q1, q2, q3, q4, q5⟩ := ques_ok T hq
  have fc : FC s (sI (sI (sI s 1665 (io 0)) 1668 (io 0)) 1669 (io 0)) := ((FC.rf.I (by decide)).I (by decide)).I (by decide)
  have P : PP t n (sI (sI (sI s 1665 (io 0)) 1668 (io 0)) 1669 (io 0)) [] [] 0 0 := ⟨⟨rfl, trivial, trivial, rfl, fun i h => absurd h (Nat.not_lt_zero _)⟩, fc.cx X, rfl, Nat.le_refl _, Nat.le_refl _, fun y hy => (List.not_mem_nil hy).elim, Nat.le_refl _⟩
  have hpe : (pQ t 200 0 0).2 = n := q4
  have h : RP F t n 4 [] [] (qrow cq) (TP F n F _ 0 0) _ (F + 0) (pQ t 200 0 0).2 := PQC hF T 200 0 0 F 0 _ [] [] cq (Or.inl rfl) (Nat.zero_le _) (by omega) q3 (by rw [hpe, T.2.2 n (Nat.le_refl _)]; decide) P (Or.inr (fun y w e => by cases e))
  rw [hpe] at h
  obtain ⟨s3, m3, u3, pl3, c3, b1, b2, b3, b4, b5, b6, b7, b8, b9⟩ := h
  have hl3 := b9.q (by omega) (fun y hy => (List.not_mem_nil hy).elim)
  obtain ⟨pd3, b9, b10, b11⟩ := b9
  obtain ⟨s4, d1, d2, d3, d4⟩ := settle_eq (F := F) (r := 1) (by omega) pl3 F s3 c3 b5 hl3 (by omega) (by omega) (by omega)
  rw [b9, flP_all pd3 [] c3 (fun y hy => by have := b11 y hy; omega) (fun y w e => by cases e), b10] at d3
  have d3' : CB s4 [] (qrow cq) := d3
  have d1' : f_Coder_settle F s3 (io 1) = some s4 := d1
  have hlen : c3.length + pl3.length = (qrow cq).length := by
    have := congrArg List.length b10
    rw [List.length_append, List.length_map] at this
    rw [b9, List.append_nil]; exact this
  refine ⟨s4, ?_, (fc.trans b4).trans d2, by omega, d3'.2.2.2.1, d3'.2.2.2.2⟩
  have e0 : f_Coder_turn F s (io n) = TP F n F (sI (sI (sI s 1665 (io 0)) 1668 (io 0)) 1669 (io 0)) 0 0 := by
    simp (disch := omega) only [f_Coder_turn, Option.bind_some, Nat.reduceEqDiff, Nat.add_zero, Nat.zero_add, Nat.reduceLT, Nat.reduceLeDiff, Nat.reduceAdd, Nat.reduceSub, Nat.reduceMul, Nat.reduceDiv, Nat.lt_irrefl, Nat.not_lt_zero, Nat.zero_le, Nat.one_ne_zero, Nat.succ_ne_zero,  lt_def, i32_lit, reduceIte, P_isIn_eq, or_false, false_or, or_true, true_or, and_true, true_and, and_false, false_and, not_true, not_false_eq_true, eq_self, if_true, if_false, not_or, not_and, Nat.not_lt, Nat.not_le]
  rw [e0, b1]
  obtain ⟨m3, rfl⟩ : ∃ m', m3 = m' + 1 := ⟨m3 - 1, by omega⟩
  show f_Coder_turn_b20 F (m3 + 1) s3 (io n) (io n) (io u3) = some s4
  by_cases hu40 : 40 ≤ u3
  · simp (disch := omega) only [f_Coder_turn_b20, Option.bind_some, Nat.reduceEqDiff, Nat.add_zero, Nat.zero_add, Nat.reduceLT, Nat.reduceLeDiff, Nat.reduceAdd, Nat.reduceSub, Nat.reduceMul, Nat.reduceDiv, Nat.lt_irrefl, Nat.not_lt_zero, Nat.zero_le, Nat.one_ne_zero, Nat.succ_ne_zero,  lt_def, i32_lit, reduceIte, P_isIn_eq, or_false, false_or, or_true, true_or, and_true, true_and, and_false, false_and, not_true, not_false_eq_true, eq_self, if_true, if_false, not_or, not_and, Nat.not_lt, Nat.not_le, io_le, hu40, d1']
  · simp (disch := omega) only [f_Coder_turn_b20, Option.bind_some, Nat.reduceEqDiff, Nat.add_zero, Nat.zero_add, Nat.reduceLT, Nat.reduceLeDiff, Nat.reduceAdd, Nat.reduceSub, Nat.reduceMul, Nat.reduceDiv, Nat.lt_irrefl, Nat.not_lt_zero, Nat.zero_le, Nat.one_ne_zero, Nat.succ_ne_zero,  lt_def, i32_lit, reduceIte, P_isIn_eq, or_false, false_or, or_true, true_or, and_true, true_and, and_false, false_and, not_true, not_false_eq_true, eq_self, if_true, if_false, not_or, not_and, Nat.not_lt, Nat.not_le, io_le, hu40, Nat.le_refl, d1']
end PQS
/-! how much a question weighs -/
def wtO (ch : Option (List CT)) : Nat := match ch with
  | none => 1
  | some c => c.length + 3
def szQ : List QT → Nat
  | [] => 0
  | x :: c => wtO x.2.2 + szQ c
theorem szQ_app {a b : List QT} : szQ (a ++ b) = szQ a + szQ b := by
  induction a with
  | nil => show szQ b = 0 + szQ b; omega
  | cons x a ih => show wtO x.2.2 + szQ (a ++ b) = wtO x.2.2 + szQ a + szQ b; omega
theorem chn_wt {α : Type} {t : Nat → Nat} {n : Nat} {wt : List α → Nat} {part : Nat → Option (List α) × Nat} {sg : Nat → Bool} {tk : Nat → α} (T : TXT t n) (h0 : sg 0 = false) (hw : ∀ a b c, wt (a ++ b ++ [tk c]) = wt a + wt b + 1)
    (hp : ∀ i, i ≤ n → ∀ c, (part i).1 = some c → wt c + i ≤ (part i).2 ∧ (part i).2 ≤ n) {i0 : Nat} : ∀ k acc i c, i ≤ n → wt acc + i0 ≤ i → (chn t part sg tk k acc i).1 = some c → wt c + i0 ≤ (chn t part sg tk k acc i).2 := by
  intro k
  induction k with
  | zero => intro acc i c hi hacc hc; cases hc; exact hacc
  | succ k ih =>
    intro acc i c hi hacc hc
    unfold chn at hc ⊢
    by_cases h : sg (t i) = true
    · rw [if_pos h] at hc ⊢
      have i1 := T.bin h h0
      cases hq : (part (i + 1)).1 with
      | none => rw [hq] at hc; cases hc
      | some c2 =>
        rw [hq] at hc
        obtain ⟨g1, g2⟩ := hp (i + 1) i1 c2 hq
        exact ih _ _ c g2 (by rw [hw]; omega) hc
    · rw [if_neg h] at hc ⊢
      cases hc; exact hacc
theorem pQ_wt {t : Nat → Nat} {n : Nat} (T : TXT t n) : ∀ d g i c, (g = 0 ∨ g = 1 ∨ g = 2 ∨ g = 6) → i ≤ n → (pQ t d g i).1 = some c → szQ c + i ≤ (pQ t d g i).2 := by
  have hbin : ∀ (a b : List QT) c, szQ (a ++ b ++ [tkQ c]) = szQ a + szQ b + 1 := fun a b c => by rw [szQ_app, szQ_app]; rfl
  intro d
  induction d with
  | zero => intro g i c hg hi hc; cases hc
  | succ d ih =>
    have hp : ∀ g, (g = 0 ∨ g = 1 ∨ g = 2 ∨ g = 6) → ∀ i, i ≤ n → ∀ c, (pQ t d g i).1 = some c → szQ c + i ≤ (pQ t d g i).2 ∧ (pQ t d g i).2 ≤ n := fun g hg i hi c hc => ⟨ih g i c hg hi hc, (pQ_gd T d g i hg hi).2.1⟩
    have hch : ∀ g g' most i c, (g = 0 ∨ g = 1 ∨ g = 2 ∨ g = 6) → g' ≤ 2 → i ≤ n → (chain t (pQ t d g) (sgc g') tkQ most i).1 = some c → szQ c + i ≤ (chain t (pQ t d g) (sgc g') tkQ most i).2 := by
      intro g g' most i c hg hg' hi hc
      have h0 : sgc g' 0 = false := by rcases (by omega : g' = 0 ∨ g' = 1 ∨ g' = 2) with rfl | rfl | rfl <;> rfl
      unfold chain at hc ⊢
      cases hq : (pQ t d g i).1 with
      | none => rw [hq] at hc; cases hc
      | some c2 =>
        rw [hq] at hc
        obtain ⟨g1, g2⟩ := hp g hg i hi c2 hq
        exact chn_wt T h0 hbin (hp g hg) most c2 _ c g2 g1 hc
    intro g i c hg hi hc
    rcases hg with rfl | rfl | rfl | rfl
    · exact hch 1 0 1 i c (by omega) (by omega) hi hc
    · exact hch 2 1 40 i c (by omega) (by omega) hi hc
    · exact hch 6 2 40 i c (by omega) (by omega) hi hc
    · have hc' : (if t i = 45 then post (tkQ 126) (pQ t d 6 (i + 1)) else if t i = 40 then clo t (pQ t d 0 (i + 1)) else if agc (t i) = true then pAg t (d - 1) i else numE (pNum t i)).1 = some c := hc
      show szQ c + i ≤ (if t i = 45 then post (tkQ 126) (pQ t d 6 (i + 1)) else if t i = 40 then clo t (pQ t d 0 (i + 1)) else if agc (t i) = true then pAg t (d - 1) i else numE (pNum t i)).2
      by_cases h1 : t i = 45
      · rw [if_pos h1] at hc' ⊢
        unfold post at hc' ⊢
        cases hq : (pQ t d 6 (i + 1)).1 with
        | none => rw [hq] at hc'; cases hc'
        | some c2 =>
          rw [hq] at hc'
          have := ih 6 (i + 1) c2 (by omega) (T.in' h1) hq
          cases hc'
          dsimp only
          rw [szQ_app]
          show szQ c2 + 1 + i ≤ _
          omega
      · rw [if_neg h1] at hc' ⊢
        by_cases h2 : t i = 40
        · rw [if_pos h2] at hc' ⊢
          unfold clo at hc' ⊢
          cases hq : (pQ t d 0 (i + 1)).1 with
          | none => rw [hq] at hc'; cases hc'
          | some c2 =>
            rw [hq] at hc'
            dsimp only at hc' ⊢
            have := ih 0 (i + 1) c2 (by omega) (T.in' h2) hq
            by_cases h41 : t (pQ t d 0 (i + 1)).2 = 41
            · rw [if_pos h41] at hc' ⊢
              cases hc'
              show szQ c + i ≤ (pQ t d 0 (i + 1)).2 + 1
              omega
            · rw [if_neg h41] at hc'; cases hc'
        · rw [if_neg h2] at hc' ⊢
          by_cases h3 : agc (t i) = true
          · rw [if_pos h3] at hc' ⊢
            have hag : ∀ k f i2, i + 2 ≤ i2 → i2 ≤ n → (pAg2 t (d - 1) k f i2).1 = some c → szQ c + i ≤ (pAg2 t (d - 1) k f i2).2 := by
              intro k f i2 hi2 hin hcc
              unfold pAg2 at hcc ⊢
              by_cases h58 : t i2 = 58
              · rw [if_pos h58] at hcc ⊢
                unfold ag2E clo at hcc ⊢
                have gC := pC_gd T (d - 1) 3 (i2 + 1) (by omega) (T.in' h58)
                cases hq : (pC t (d - 1) 3 (i2 + 1)).1 with
                | none => rw [hq] at hcc; cases hcc
                | some cc =>
                  rw [hq] at hcc
                  dsimp only at hcc ⊢
                  have := (gC.2.2 cc hq).2.1
                  by_cases h41 : t (pC t (d - 1) 3 (i2 + 1)).2 = 41
                  · rw [if_pos h41] at hcc ⊢
                    cases hcc
                    show cc.length + 3 + 0 + i ≤ (pC t (d - 1) 3 (i2 + 1)).2 + 1
                    omega
                  · rw [if_neg h41] at hcc; cases hcc
              · rw [if_neg h58] at hcc ⊢
                unfold clo at hcc ⊢
                dsimp only at hcc ⊢
                by_cases h41 : t i2 = 41
                · rw [if_pos h41] at hcc ⊢
                  cases hcc
                  show 1 + 0 + i ≤ i2 + 1
                  omega
                · rw [if_neg h41] at hcc; cases hcc
            unfold pAg at hc' ⊢
            by_cases h40 : t (i + 1) = 40
            · rw [if_pos h40] at hc' ⊢
              by_cases h110 : t i = 110
              · rw [if_pos h110] at hc' ⊢
                exact hag _ _ _ (by omega) (T.in' h40) hc'
              · rw [if_neg h110] at hc' ⊢
                by_cases hf : fdc (t (i + 2)) = true
                · rw [if_pos hf] at hc' ⊢
                  exact hag _ _ _ (by omega) (T.bin hf) hc'
                · rw [if_neg hf] at hc'; cases hc'
            · rw [if_neg h40] at hc'; cases hc'
          · rw [if_neg h3] at hc' ⊢
            unfold numE at hc' ⊢
            have gn := num_gd T hi
            cases hv : (pNum t i).1 with
            | none => rw [hv] at hc'; cases hc'
            | some v =>
              rw [hv] at hc'
              have := (gn.2.2 v hv).1
              cases hc'
              show 1 + 0 + i ≤ (pNum t i).2
              omega
theorem ques_wt {t : Nat → Nat} {n : Nat} {c : List QT} (T : TXT t n) (h : ques t n = some c) : szQ c ≤ n := by
  obtain ⟨q1, q2, q3, q4, q5⟩ := ques_ok T h
  have := pQ_wt T 200 0 0 c (Or.inl rfl) (Nat.zero_le _) q3
  have hpe : (pQ t 200 0 0).2 = n := q4
  omega

/-! the class runs a row of codes -/
def stkJ (g : Nat → Int64) : List Int64 → Prop
  | [] => True
  | x :: w => g w.length = x ∧ stkJ g w
theorem stkJ_ext {g g' : Nat → Int64} : ∀ w : List Int64, (∀ i, i < w.length → g' i = g i) → stkJ g w → stkJ g' w := by
  intro w
  induction w with
  | nil => intro _ _; trivial
  | cons x w ih =>
    intro h hs
    exact ⟨by rw [h _ (by show w.length < w.length + 1; omega)]; exact hs.1, ih (fun i hi => h i (by show i < w.length + 1; omega)) hs.2⟩
def RS (s : St) (st : List Int64) : Prop := gI s 2178 = io st.length ∧ stkJ (gJ s 38) st
def FH (s s' : St) : Prop := Fr [2178] [] s s' ∧ gL s' = gL s ∧ ∀ k, k ≠ 38 → gJ s' k = gJ s k
theorem FH.rf {s : St} : FH s s := ⟨Fr.rf, rfl, fun _ _ => rfl⟩
theorem FH.trans {s s1 s2 : St} (h : FH s s1) (h2 : FH s1 s2) : FH s s2 := ⟨h.1.trans h2.1, h2.2.1.trans h.2.1, fun k hk => (h2.2.2 k hk).trans (h.2.2 k hk)⟩
theorem pushR {F : Nat} {s : St} {st : List Int64} {x : Int64} (H : RS s st) (hl : st.length ≤ 39) : ∃ s', f_Runner_push F s x = some s' ∧ FH s s' ∧ RS s' (x :: st) ∧ gI s' = gI (sI s 2178 (io (st.length + 1))) ∧ gA s' = gA s ∧ gL s' = gL s := by
  refine ⟨sI (sJ s 38 st.length x) 2178 (io (st.length + 1)), ?_, ⟨Fr.rf.J.I (by decide), rfl, fun k hk => ?_⟩, ⟨rfl, ?_, stkJ_ext st (fun i hi => ?_) H.2⟩, rfl, rfl, rfl⟩
  · have c1 : ¬ 39 < st.length := by omega
    have c0 : ¬ st.length < 0 := by omega
    simp (disch := omega) only [f_Runner_push, Option.bind_some, Nat.reduceEqDiff, Nat.add_zero, Nat.zero_add, Nat.reduceLT, Nat.reduceLeDiff, Nat.reduceAdd, Nat.reduceSub, Nat.reduceMul, Nat.reduceDiv, Nat.lt_irrefl, Nat.not_lt_zero, Nat.zero_le, Nat.one_ne_zero, Nat.succ_ne_zero,  lt_def, i32_lit, reduceIte, P_isIn_eq, or_false, false_or, or_true, true_or, and_true, true_and, and_false, false_and, not_true, not_false_eq_true, eq_self, if_true, if_false, not_or, not_and, Nat.not_lt, Nat.not_le, H.1, io_lt, c0, io_sub, c1, io_eq, ix_io, gI_sJ, io_add]
  · funext j
    show gJ (sJ s 38 st.length x) k j = _
    rw [gJ_sJ, if_neg hk]
  · show gJ (sJ s 38 st.length x) 38 st.length = x
    rw [gJ_sJ, if_pos rfl, if_pos rfl]
  · show gJ (sJ s 38 st.length x) 38 i = _
    rw [gJ_sJ, if_pos rfl, if_neg (by omega)]
theorem pullR {F : Nat} {s : St} {st : List Int64} {x : Int64} (H : RS s (x :: st)) (hl : st.length ≤ 39) : f_Runner_pull F s = some (x, sI s 2178 (io st.length)) ∧ FH s (sI s 2178 (io st.length)) ∧ RS (sI s 2178 (io st.length)) st := by
  obtain ⟨h1, h2, h3⟩ := H
  rw [List.length_cons] at h1
  refine ⟨?_, ⟨Fr.rf.I (by decide), rfl, fun _ _ => rfl⟩, rfl, h3⟩
  have c1 : ¬ 40 < st.length + 1 := by omega
  have c0 : ¬ st.length + 1 < 1 := by omega
  simp (disch := omega) only [f_Runner_pull, Option.bind_some, Nat.reduceEqDiff, Nat.add_zero, Nat.zero_add, Nat.reduceLT, Nat.reduceLeDiff, Nat.reduceAdd, Nat.reduceSub, Nat.reduceMul, Nat.reduceDiv, Nat.lt_irrefl, Nat.not_lt_zero, Nat.zero_le, Nat.one_ne_zero, Nat.succ_ne_zero,  lt_def, i32_lit, reduceIte, P_isIn_eq, or_false, false_or, or_true, true_or, and_true, true_and, and_false, false_and, not_true, not_false_eq_true, eq_self, if_true, if_false, not_or, not_and, Nat.not_lt, Nat.not_le, h1, io_lt, c0, io_sub, c1, io_eq, ix_io, Nat.add_sub_cancel, gI_sI, gJ_sI, h2]
/-- a stretch of codes -/
def CRa (s : St) (at' : Nat) (rw : List Nat) : Prop := at' + rw.length ≤ 80 ∧ ∀ i (h : i < rw.length), gA s 27 (at' + i) = io rw[i]
theorem CRa.fr {s s' : St} {p : Nat} {rw : List Nat} (h : CRa s p rw) (f : FH s s') : CRa s' p rw := ⟨h.1, fun i hi => by rw [f.1.ga 27 (by decide)]; exact h.2 i hi⟩
theorem CRa.left {s : St} {p : Nat} {a b : List Nat} (h : CRa s p (a ++ b)) : CRa s p a := by
  refine ⟨by have := h.1; rw [List.length_append] at this; omega, fun i hi => ?_⟩
  have := h.2 i (by rw [List.length_append]; omega)
  rw [List.getElem_append_left hi] at this
  exact this
theorem CRa.right {s : St} {p : Nat} {a b : List Nat} (h : CRa s p (a ++ b)) : CRa s (p + a.length) b := by
  refine ⟨by have := h.1; rw [List.length_append] at this; omega, fun i hi => ?_⟩
  have := h.2 (a.length + i) (by rw [List.length_append]; omega)
  rw [List.getElem_append_right (Nat.le_add_right _ _)] at this
  rw [Nat.add_assoc, this]
  congr 2
  simp
theorem CRa.hd {s : St} {p x : Nat} {a : List Nat} (h : CRa s p (x :: a)) : gA s 27 p = io x ∧ p < 80 := ⟨h.2 0 (Nat.succ_pos _), by have := h.1; rw [List.length_cons] at this; omega⟩
theorem CRa.tl {s : St} {p x : Nat} {a : List Nat} (h : CRa s p (x :: a)) : CRa s (p + 1) a := CRa.right (a := [x]) h
section RST
variable {F p : Nat} {s : St} {st : List Int64} {lg : Int32}
theorem step_num {v : Nat} {a : List Nat} (H : RS s st) (hl : st.length ≤ 39) (C : CRa s p (35 :: v :: a)) : ∃ s', f_Runner_step F s (io p) lg = some (io (p + 2), s') ∧ FH s s' ∧ RS s' ((io v).toInt64 :: st) := by
  obtain ⟨c1, c2⟩ := C.hd
  obtain ⟨c3, c4⟩ := C.tl.hd
  obtain ⟨s', a1, a2, a3, -⟩ := pushR (F := F) (x := (io v).toInt64) H hl
  refine ⟨s', ?_, a2, a3⟩
  have n0 : ¬ p < 0 := by omega
  have n1 : ¬ 80 ≤ p + 1 := by omega
  simp (disch := omega) only [f_Runner_step, Option.bind_some, Nat.reduceEqDiff, Nat.add_zero, Nat.zero_add, Nat.reduceLT, Nat.reduceLeDiff, Nat.reduceAdd, Nat.reduceSub, Nat.reduceMul, Nat.reduceDiv, Nat.lt_irrefl, Nat.not_lt_zero, Nat.zero_le, Nat.one_ne_zero, Nat.succ_ne_zero,  lt_def, i32_lit, reduceIte, P_isIn_eq, or_false, false_or, or_true, true_or, and_true, true_and, and_false, false_and, not_true, not_false_eq_true, eq_self, if_true, if_false, not_or, not_and, Nat.not_lt, Nat.not_le, io_lt, n0, c2, ix_io, c1, io_eq, io_add, io_le, n1, c3, a1]
theorem step_fld {h m k f : Nat} {L : Nat → LR} {a : List Nat} (H : RS s st) (hl : st.length ≤ 39) (C : CRa s p (f :: a)) (hf : fdc f = true) (LC : LGc s L m) (G : LGg L m h) (hh : h ≤ 1000) (hk : k < m) : ∃ s', f_Runner_step F s (io p) (io (rI (L k))) = some (io (p + 1), s') ∧ FH s s' ∧ RS s' ((fld f (rec1 (L k))).toInt64 :: st) := by
  obtain ⟨c1, c2⟩ := C.hd
  have hf' : f = 112 ∨ f = 108 ∨ f = 118 ∨ f = 104 := of_decide_eq_true hf
  have hfo := fieldOf_eq (F := F) (f := f) LC G hh hk (by omega)
  obtain ⟨s', a1, a2, a3, -⟩ := pushR (F := F) (x := (fld f (rec1 (L k))).toInt64) H hl
  refine ⟨s', ?_, a2, a3⟩
  have n0 : ¬ p < 0 := by omega
  have n1 : ¬ f = 35 := by omega
  have hif := isField_eq (F := F) (s := s) (show f < 1000 by omega)
  rw [if_pos hf] at hif
  simp (disch := omega) only [f_Runner_step, Option.bind_some, Nat.reduceEqDiff, Nat.add_zero, Nat.zero_add, Nat.reduceLT, Nat.reduceLeDiff, Nat.reduceAdd, Nat.reduceSub, Nat.reduceMul, Nat.reduceDiv, Nat.lt_irrefl, Nat.not_lt_zero, Nat.zero_le, Nat.one_ne_zero, Nat.succ_ne_zero,  lt_def, i32_lit, reduceIte, P_isIn_eq, or_false, false_or, or_true, true_or, and_true, true_and, and_false, false_and, not_true, not_false_eq_true, eq_self, if_true, if_false, not_or, not_and, Nat.not_lt, Nat.not_le, io_lt, n0, c2, ix_io, c1, io_eq, n1, hif, hfo, a1, io_add]
theorem step_neg {x : Int64} {a : List Nat} (H : RS s (x :: st)) (hl : st.length ≤ 39) (C : CRa s p (126 :: a)) : ∃ s', f_Runner_step F s (io p) lg = some (io (p + 1), s') ∧ FH s s' ∧ RS s' (-x :: st) := by
  obtain ⟨c1, c2⟩ := C.hd
  obtain ⟨b1, b2, b3⟩ := pullR (F := F) H hl
  obtain ⟨s', a1, a2, a3, -⟩ := pushR (F := F) (x := -x) b3 hl
  refine ⟨s', ?_, b2.trans a2, a3⟩
  have n0 : ¬ p < 0 := by omega
  have hif := isField_eq (F := F) (s := s) (show 126 < 1000 by omega)
  rw [if_neg (by decide)] at hif
  simp (disch := omega) only [f_Runner_step, Option.bind_some, Nat.reduceEqDiff, Nat.add_zero, Nat.zero_add, Nat.reduceLT, Nat.reduceLeDiff, Nat.reduceAdd, Nat.reduceSub, Nat.reduceMul, Nat.reduceDiv, Nat.lt_irrefl, Nat.not_lt_zero, Nat.zero_le, Nat.one_ne_zero, Nat.succ_ne_zero,  lt_def, i32_lit, reduceIte, P_isIn_eq, or_false, false_or, or_true, true_or, and_true, true_and, and_false, false_and, not_true, not_false_eq_true, eq_self, if_true, if_false, not_or, not_and, Nat.not_lt, Nat.not_le, io_lt, n0, c2, ix_io, c1, io_eq, hif, b1, a1, io_add]
theorem step_not {x : Bool} {a : List Nat} (H : RS s (b64 x :: st)) (hl : st.length ≤ 39) (C : CRa s p (33 :: a)) : ∃ s', f_Runner_step F s (io p) lg = some (io (p + 1), s') ∧ FH s s' ∧ RS s' (b64 (!x) :: st) := by
  obtain ⟨c1, c2⟩ := C.hd
  obtain ⟨b1, b2, b3⟩ := pullR (F := F) H hl
  obtain ⟨s', a1, a2, a3, -⟩ := pushR (F := F) (x := b64 (!x)) b3 hl
  refine ⟨s', ?_, b2.trans a2, a3⟩
  have n0 : ¬ p < 0 := by omega
  have hif := isField_eq (F := F) (s := s) (show 33 < 1000 by omega)
  rw [if_neg (by decide)] at hif
  cases x with
  | true =>
    have h10 : ¬ b64 true = 0 := by rw [b64_0]; decide
    have a1' : f_Runner_push F (sI s 2178 (io st.length)) 0 = some s' := a1
    simp (disch := omega) only [f_Runner_step, Option.bind_some, Nat.reduceEqDiff, Nat.add_zero, Nat.zero_add, Nat.reduceLT, Nat.reduceLeDiff, Nat.reduceAdd, Nat.reduceSub, Nat.reduceMul, Nat.reduceDiv, Nat.lt_irrefl, Nat.not_lt_zero, Nat.zero_le, Nat.one_ne_zero, Nat.succ_ne_zero,  lt_def, i32_lit, reduceIte, P_isIn_eq, or_false, false_or, or_true, true_or, and_true, true_and, and_false, false_and, not_true, not_false_eq_true, eq_self, if_true, if_false, not_or, not_and, Nat.not_lt, Nat.not_le, io_lt, n0, c2, ix_io, c1, io_eq, hif, b1, h10, a1', io_add]
  | false =>
    have h10 : b64 false = 0 := rfl
    have a1' : f_Runner_push F (sI s 2178 (io st.length)) 1 = some s' := a1
    rw [h10] at b1
    simp (disch := omega) only [f_Runner_step, Option.bind_some, Nat.reduceEqDiff, Nat.add_zero, Nat.zero_add, Nat.reduceLT, Nat.reduceLeDiff, Nat.reduceAdd, Nat.reduceSub, Nat.reduceMul, Nat.reduceDiv, Nat.lt_irrefl, Nat.not_lt_zero, Nat.zero_le, Nat.one_ne_zero, Nat.succ_ne_zero,  lt_def, i32_lit, reduceIte, P_isIn_eq, or_false, false_or, or_true, true_or, and_true, true_and, and_false, false_and, not_true, not_false_eq_true, eq_self, if_true, if_false, not_or, not_and, Nat.not_lt, Nat.not_le, io_lt, n0, c2, ix_io, c1, io_eq, hif, b1, a1', io_add]
theorem step_bin {sg : Nat} {x y z : Int64} {a : List Nat} (H : RS s (y :: x :: st)) (hl : st.length ≤ 38) (C : CRa s p (sg :: a)) (hs : qop sg ∨ sg = 38 ∨ sg = 124) (hz : ∀ s, f_P_combined F s (io sg) x y = some (z, s)) : ∃ s', f_Runner_step F s (io p) lg = some (io (p + 1), s') ∧ FH s s' ∧ RS s' (z :: st) := by
  obtain ⟨c1, c2⟩ := C.hd
  obtain ⟨b1, b2, b3⟩ := pullR (F := F) H (by show st.length + 1 ≤ 39; omega)
  obtain ⟨d1, d2, d3⟩ := pullR (F := F) b3 (by omega)
  obtain ⟨s', a1, a2, a3, -⟩ := pushR (F := F) (x := z) d3 (by omega)
  refine ⟨s', ?_, (b2.trans d2).trans a2, a3⟩
  have hlt : sg < 1000 := by unfold qop at hs; omega
  have n0 : ¬ p < 0 := by omega
  have n35 : ¬ sg = 35 := by unfold qop at hs; omega
  have n33 : ¬ sg = 33 := by unfold qop at hs; omega
  have n126 : ¬ sg = 126 := by unfold qop at hs; omega
  have hif := isField_eq (F := F) (s := s) hlt
  rw [if_neg (by unfold fdc; rw [decide_eq_true_eq]; unfold qop at hs; omega)] at hif
  simp (disch := omega) only [f_Runner_step, Option.bind_some, Nat.reduceEqDiff, Nat.add_zero, Nat.zero_add, Nat.reduceLT, Nat.reduceLeDiff, Nat.reduceAdd, Nat.reduceSub, Nat.reduceMul, Nat.reduceDiv, Nat.lt_irrefl, Nat.not_lt_zero, Nat.zero_le, Nat.one_ne_zero, Nat.succ_ne_zero,  lt_def, i32_lit, reduceIte, P_isIn_eq, or_false, false_or, or_true, true_or, and_true, true_and, and_false, false_and, not_true, not_false_eq_true, eq_self, if_true, if_false, not_or, not_and, Nat.not_lt, Nat.not_le, io_lt, n0, c2, ix_io, c1, io_eq, n35, hif, n126, n33, b1, d1, hz, a1, io_add]
theorem hold_it {m e cnt p' : Nat} {s' : St} (he : e ≤ 80) (hp : p < e) (hc : cnt ≤ p) (h : f_Runner_step F s (io p) lg = some (io p', s')) : f_Runner_holds_b6 F (m + 1) s (io e) lg (io p) (io cnt) = f_Runner_holds_b6 F m s' (io e) lg (io p') (io (cnt + 1)) := by
  have n1 : ¬ e ≤ cnt := by omega
  have n2 : ¬ e ≤ p := by omega
  simp (disch := omega) only [f_Runner_holds_b6, Option.bind_some, Nat.reduceEqDiff, Nat.add_zero, Nat.zero_add, Nat.reduceLT, Nat.reduceLeDiff, Nat.reduceAdd, Nat.reduceSub, Nat.reduceMul, Nat.reduceDiv, Nat.lt_irrefl, Nat.not_lt_zero, Nat.zero_le, Nat.one_ne_zero, Nat.succ_ne_zero,  lt_def, i32_lit, reduceIte, P_isIn_eq, or_false, false_or, or_true, true_or, and_true, true_and, and_false, false_and, not_true, not_false_eq_true, eq_self, if_true, if_false, not_or, not_and, Nat.not_lt, Nat.not_le, io_le, n1, n2, h, io_add]
end RST
/-- a choice, by its codes -/
theorem holdsR {F h m k : Nat} {s0 : St} {L : Nat → LR} (LC : LGc s0 L m) (G : LGg L m h) (hh : h ≤ 1000) (hk : k < m) {base : List Int64} {e : Nat} (he : e ≤ 80) : ∀ (c : List CT) (fu p cnt : Nat) (s : St) (cs : List Bool), CRa s0 p (chrow c) → p + (chrow c).length = e → (∀ x ∈ c, tvC x) → depC c cs.length = some 1 → base.length + cs.length + c.length ≤ 38 → cnt ≤ p → (chrow c).length < fu → FH s0 s → RS s (cs.map b64 ++ base) →
    ∃ s', f_Runner_holds_b6 F fu s (io e) (io (rI (L k))) (io p) (io cnt) = some (if (runC (rec1 (L k)) c cs).headD false = true then io 1 else io 0, s') ∧ FH s0 s' ∧ RS s' base := by
  intro c
  induction c with
  | nil =>
    intro fu p cnt s cs C hpe hv hd hsz hcnt hfu f R
    obtain ⟨fu, rfl⟩ : ∃ f', fu = f' + 1 := ⟨fu - 1, by omega⟩
    have hpe' : p = e := hpe
    have hd' : some cs.length = some 1 := hd
    obtain ⟨b, rfl⟩ : ∃ b, cs = [b] := by
      cases cs with
      | nil => cases hd'
      | cons b cs => cases cs with
        | nil => exact ⟨b, rfl⟩
        | cons x y =>
          have h9 := Option.some.inj hd'
          have h9' : y.length + 1 + 1 = 1 := h9
          omega
    have hbl : base.length ≤ 39 := by omega
    obtain ⟨a1, a2, a3⟩ := pullR (F := F) (s := s) (x := b64 b) (st := base) R hbl
    refine ⟨sI s 2178 (io base.length), ?_, f.trans a2, a3⟩
    have hep : e ≤ p := by omega
    show _ = some (if b = true then io 1 else io 0, _)
    cases b with
    | true =>
      have h10 : ¬ b64 true = 0 := by rw [b64_0]; decide
      by_cases hc : e ≤ cnt
      · simp (disch := omega) only [f_Runner_holds_b6, Option.bind_some, Nat.reduceEqDiff, Nat.add_zero, Nat.zero_add, Nat.reduceLT, Nat.reduceLeDiff, Nat.reduceAdd, Nat.reduceSub, Nat.reduceMul, Nat.reduceDiv, Nat.lt_irrefl, Nat.not_lt_zero, Nat.zero_le, Nat.one_ne_zero, Nat.succ_ne_zero,  lt_def, i32_lit, reduceIte, P_isIn_eq, or_false, false_or, or_true, true_or, and_true, true_and, and_false, false_and, not_true, not_false_eq_true, eq_self, if_true, if_false, not_or, not_and, Nat.not_lt, Nat.not_le, io_le, hc, a1, h10]
      · simp (disch := omega) only [f_Runner_holds_b6, Option.bind_some, Nat.reduceEqDiff, Nat.add_zero, Nat.zero_add, Nat.reduceLT, Nat.reduceLeDiff, Nat.reduceAdd, Nat.reduceSub, Nat.reduceMul, Nat.reduceDiv, Nat.lt_irrefl, Nat.not_lt_zero, Nat.zero_le, Nat.one_ne_zero, Nat.succ_ne_zero,  lt_def, i32_lit, reduceIte, P_isIn_eq, or_false, false_or, or_true, true_or, and_true, true_and, and_false, false_and, not_true, not_false_eq_true, eq_self, if_true, if_false, not_or, not_and, Nat.not_lt, Nat.not_le, io_le, hc, hep, a1, h10]
    | false =>
      have h10 : b64 false = 0 := rfl
      rw [h10] at a1
      by_cases hc : e ≤ cnt
      · simp (disch := omega) only [f_Runner_holds_b6, Option.bind_some, Nat.reduceEqDiff, Nat.add_zero, Nat.zero_add, Nat.reduceLT, Nat.reduceLeDiff, Nat.reduceAdd, Nat.reduceSub, Nat.reduceMul, Nat.reduceDiv, Nat.lt_irrefl, Nat.not_lt_zero, Nat.zero_le, Nat.one_ne_zero, Nat.succ_ne_zero,  lt_def, i32_lit, reduceIte, P_isIn_eq, or_false, false_or, or_true, true_or, and_true, true_and, and_false, false_and, not_true, not_false_eq_true, eq_self, if_true, if_false, not_or, not_and, Nat.not_lt, Nat.not_le, io_le, hc, a1, Bool.false_eq_true]
      · simp (disch := omega) only [f_Runner_holds_b6, Option.bind_some, Nat.reduceEqDiff, Nat.add_zero, Nat.zero_add, Nat.reduceLT, Nat.reduceLeDiff, Nat.reduceAdd, Nat.reduceSub, Nat.reduceMul, Nat.reduceDiv, Nat.lt_irrefl, Nat.not_lt_zero, Nat.zero_le, Nat.one_ne_zero, Nat.succ_ne_zero,  lt_def, i32_lit, reduceIte, P_isIn_eq, or_false, false_or, or_true, true_or, and_true, true_and, and_false, false_and, not_true, not_false_eq_true, eq_self, if_true, if_false, not_or, not_and, Nat.not_lt, Nat.not_le, io_le, hc, hep, a1, Bool.false_eq_true]
  | cons x c ih =>
    intro fu p cnt s cs C hpe hv hd hsz hcnt hfu f R
    have hrw : chrow (x :: c) = chr1 x ++ chrow c := List.flatMap_cons
    rw [hrw] at C hpe hfu
    rw [List.length_append] at hpe hfu
    have hsz' : base.length + cs.length + (c.length + 1) ≤ 38 := hsz
    have Ca := C.left
    have Cb := C.right
    have LCs := fun {s1 : St} (g : FH s0 s1) => (LC.fr g.1 : LGc s1 L m)
    have hd' : (dc x cs.length).bind (depC c) = some 1 := hd
    have hrl : ∀ cs : List Bool, (cs.map b64 ++ base).length = cs.length + base.length := fun cs => by rw [List.length_append, List.length_map]
    -- what follows the token
    have go : ∀ (w : Nat) (fu' cnt' : Nat) (s' : St) (cs' : List Bool), (chr1 x).length = w → stC (rec1 (L k)) x cs = cs' → cs'.length ≤ cs.length + 1 → dc x cs.length = some cs'.length → FH s0 s' → RS s' (cs'.map b64 ++ base) → cnt' ≤ p + w → (chrow c).length < fu' → f_Runner_holds_b6 F fu s (io e) (io (rI (L k))) (io p) (io cnt) = f_Runner_holds_b6 F fu' s' (io e) (io (rI (L k))) (io (p + w)) (io cnt') →
        ∃ s', f_Runner_holds_b6 F fu s (io e) (io (rI (L k))) (io p) (io cnt) = some (if (runC (rec1 (L k)) (x :: c) cs).headD false = true then io 1 else io 0, s') ∧ FH s0 s' ∧ RS s' base := by
      intro w fu' cnt' s' cs' h1 h2 h3 h4 h5 h6 h7 h8 h9
      rw [h9]
      rw [h4, Option.bind_some] at hd'
      have := ih fu' (p + w) cnt' s' cs' (by rw [← h1]; exact Cb) (by omega) (fun y hy => hv y (List.mem_cons_of_mem _ hy)) hd' (by omega) h7 h8 h5 h6
      have e9 : runC (rec1 (L k)) (x :: c) cs = runC (rec1 (L k)) c cs' := by rw [← h2]; rfl
      rw [e9]
      exact this
    rcases hv x List.mem_cons_self with ⟨v1, v2, v3, v4⟩ | v1 | ⟨v1, v2⟩
    · obtain ⟨sg, fi, v, b⟩ := x
      have v1' : cmc sg = true := v1
      have v2' : fdc fi = true := v2
      have hqs : qop sg := by have : sg = 60 ∨ sg = 62 ∨ sg = 61 := of_decide_eq_true v1'; unfold qop; omega
      have hch : chr1 (sg, fi, v, b) = [fi, 35, v] ++ (if b = 1 then [126] else []) ++ [sg] := by unfold chr1; rw [if_pos v1]
      have hdc : dc (sg, fi, v, b) cs.length = some (cs.length + 1) := by unfold dc; rw [if_pos v1]
      rw [hch] at Ca hpe hfu
      have v4' : b ≤ 1 := v4
      rcases (by omega : b = 0 ∨ b = 1) with rfl | rfl
      · have Ca' : CRa s0 p [fi, 35, v, sg] := Ca
        obtain ⟨s1, a1, a2, a3⟩ := step_fld (F := F) R (by rw [hrl]; omega) (Ca'.fr f) v2' (LCs f) G hh hk
        obtain ⟨s2, b1, b2, b3⟩ := step_num (F := F) (lg := io (rI (L k))) a3 (by rw [List.length_cons, hrl]; omega) ((Ca'.fr (f.trans a2)).tl)
        obtain ⟨s3, d1, d2, d3⟩ := step_bin (F := F) (lg := io (rI (L k))) (p := p + 1 + 1 + 1) b3 (by rw [hrl]; omega) ((Ca'.fr ((f.trans a2).trans b2)).tl.tl.tl) (Or.inl hqs) (fun s => comb_C v1')
        have hl4 : ([fi, 35, v] ++ (if (0 : Nat) = 1 then [126] else []) ++ [sg]).length = 4 := rfl
        rw [hl4] at hpe hfu
        obtain ⟨fu, rfl⟩ : ∃ f', fu = f' + 3 := ⟨fu - 3, by omega⟩
        refine go 4 fu (cnt + 3) s3 (cmpv sg (fld fi (rec1 (L k))).toInt64 (sgn 0 v) :: cs) (by rw [hch]; rfl) (by unfold stC; rw [if_pos v1]) (Nat.le_refl _) hdc (((f.trans a2).trans b2).trans d2) d3 (by omega) (by omega) ?_
        rw [hold_it he (by omega) (by omega) a1, hold_it he (by omega) (by omega) b1]
        rw [show p + 1 + 2 = p + 1 + 1 + 1 by omega, hold_it he (by omega) (by omega) d1]
      · have Ca' : CRa s0 p [fi, 35, v, 126, sg] := Ca
        obtain ⟨s1, a1, a2, a3⟩ := step_fld (F := F) R (by rw [hrl]; omega) (Ca'.fr f) v2' (LCs f) G hh hk
        obtain ⟨s2, b1, b2, b3⟩ := step_num (F := F) (lg := io (rI (L k))) a3 (by rw [List.length_cons, hrl]; omega) ((Ca'.fr (f.trans a2)).tl)
        obtain ⟨s3, d1, d2, d3⟩ := step_neg (F := F) (lg := io (rI (L k))) (p := p + 1 + 1 + 1) b3 (by rw [List.length_cons, hrl]; omega) ((Ca'.fr ((f.trans a2).trans b2)).tl.tl.tl)
        obtain ⟨s4, e1, e2, e3⟩ := step_bin (F := F) (lg := io (rI (L k))) (p := p + 1 + 1 + 1 + 1) d3 (by rw [hrl]; omega) ((Ca'.fr (((f.trans a2).trans b2).trans d2)).tl.tl.tl.tl) (Or.inl hqs) (fun s => comb_C v1')
        have hl4 : ([fi, 35, v] ++ (if (1 : Nat) = 1 then [126] else []) ++ [sg]).length = 5 := rfl
        rw [hl4] at hpe hfu
        obtain ⟨fu, rfl⟩ : ∃ f', fu = f' + 4 := ⟨fu - 4, by omega⟩
        refine go 5 fu (cnt + 4) s4 (cmpv sg (fld fi (rec1 (L k))).toInt64 (sgn 1 v) :: cs) (by rw [hch]; rfl) (by unfold stC; rw [if_pos v1]) (Nat.le_refl _) hdc ((((f.trans a2).trans b2).trans d2).trans e2) e3 (by omega) (by omega) ?_
        rw [hold_it he (by omega) (by omega) a1, hold_it he (by omega) (by omega) b1]
        rw [show p + 1 + 2 = p + 1 + 1 + 1 by omega, hold_it he (by omega) (by omega) d1, hold_it he (by omega) (by omega) e1]
    · subst v1
      have hch : chr1 (33, 0, 0, 0) = [33] := rfl
      rw [hch] at Ca hpe hfu
      have h1 : 1 ≤ cs.length := by
        rcases Nat.lt_or_ge cs.length 1 with h9 | h9
        · have : dc (33, 0, 0, 0) cs.length = none := by unfold dc; rw [if_neg (by decide), if_pos rfl, if_neg (by omega)]
          rw [this] at hd'; cases hd'
        · exact h9
      obtain ⟨a, cs, rfl⟩ : ∃ a r, cs = a :: r := by
        cases cs with
        | nil => exact absurd h1 (by decide)
        | cons a r => exact ⟨a, r, rfl⟩
      have hsz2 : base.length + (cs.length + 1) + (c.length + 1) ≤ 38 := hsz'
      obtain ⟨s1, a1, a2, a3⟩ := step_not (F := F) (lg := io (rI (L k))) (st := cs.map b64 ++ base) R (by rw [hrl]; omega) (Ca.fr f)
      have hl1 : [33].length = 1 := rfl
      rw [hl1] at hpe hfu
      obtain ⟨fu, rfl⟩ : ∃ f', fu = f' + 1 := ⟨fu - 1, by omega⟩
      refine go 1 fu (cnt + 1) s1 ((!a) :: cs) rfl rfl (by show cs.length + 1 ≤ cs.length + 1 + 1; omega) ?_ (f.trans a2) a3 (by omega) (by omega) ?_
      · unfold dc; rw [if_neg (by decide), if_pos rfl, if_pos (by show 1 ≤ cs.length + 1; omega)]; rfl
      · rw [hold_it he (by omega) (by omega) a1]
    · obtain ⟨sg, r3⟩ := x
      have v1' : sg = 38 ∨ sg = 124 := v1
      have v2' : r3 = (0, 0, 0) := v2
      subst v2'
      have ncm : ¬ cmc sg = true := by unfold cmc; rw [decide_eq_true_eq]; omega
      have n33 : ¬ sg = 33 := by omega
      have hch : chr1 (sg, 0, 0, 0) = [sg] := by unfold chr1; rw [if_neg ncm]
      rw [hch] at Ca hpe hfu
      have h2 : 2 ≤ cs.length := by
        rcases Nat.lt_or_ge cs.length 2 with h9 | h9
        · have : dc (sg, 0, 0, 0) cs.length = none := by unfold dc; rw [if_neg ncm, if_neg n33, if_neg (by omega)]
          rw [this] at hd'; cases hd'
        · exact h9
      obtain ⟨b, a, cs, rfl⟩ : ∃ b a r, cs = b :: a :: r := by
        cases cs with
        | nil => exact absurd h2 (by decide)
        | cons b r =>
          cases r with
          | nil => have h9 : 2 ≤ 1 := h2; omega
          | cons a r => exact ⟨b, a, r, rfl⟩
      have hsz2 : base.length + (cs.length + 1 + 1) + (c.length + 1) ≤ 38 := hsz'
      obtain ⟨s1, a1, a2, a3⟩ := step_bin (F := F) (lg := io (rI (L k))) (st := cs.map b64 ++ base) (x := b64 a) (y := b64 b) R (by rw [hrl]; omega) (Ca.fr f) (Or.inr v1') (fun s => comb_B v1')
      have hl1 : [sg].length = 1 := rfl
      rw [hl1] at hpe hfu
      obtain ⟨fu, rfl⟩ : ∃ f', fu = f' + 1 := ⟨fu - 1, by omega⟩
      refine go 1 fu (cnt + 1) s1 ((if sg = 38 then a && b else a || b) :: cs) (by rw [hch]; rfl) (by unfold stC; rw [if_neg ncm, if_neg n33]) (by show cs.length + 1 ≤ cs.length + 1 + 1 + 1; omega) ?_ (f.trans a2) a3 (by omega) (by omega) ?_
      · unfold dc; rw [if_neg ncm, if_neg n33, if_pos (by show 2 ≤ cs.length + 1 + 1; omega)]; rfl
      · rw [hold_it he (by omega) (by omega) a1]

/-! the class runs a question's codes -/
theorem chr1_pos (x : CT) : 1 ≤ (chr1 x).length := by
  unfold chr1
  by_cases h : cmc x.1 = true
  · rw [if_pos h, List.length_append]; show 1 ≤ _ + 1; omega
  · rw [if_neg h]; exact Nat.le_refl _
theorem chrow_pos {c : List CT} (h : okC c) : 1 ≤ (chrow c).length := by
  cases c with
  | nil => have h9 : some 0 = some (0 + 1) := h.2 0; cases h9
  | cons x c =>
    have e : chrow (x :: c) = chr1 x ++ chrow c := List.flatMap_cons
    rw [e, List.length_append]
    have := chr1_pos x
    omega
theorem RS.fr {s s' : St} {st : List Int64} (H : RS s st) (h1 : gI s' 2178 = gI s 2178) (h2 : gJ s' 38 = gJ s 38) : RS s' st := ⟨h1.trans H.1, by rw [h2]; exact H.2⟩
def FRn (s s' : St) : Prop := Fr [2178, 2241, 2243, 2244, 2245] [36, 37] s s' ∧ ∀ k, k ≠ 38 → gJ s' k = gJ s k
theorem FRn.rf {s : St} : FRn s s := ⟨Fr.rf, fun _ _ => rfl⟩
theorem FRn.trans {s s1 s2 : St} (h : FRn s s1) (h2 : FRn s1 s2) : FRn s s2 := ⟨h.1.trans h2.1, fun k hk => (h2.2 k hk).trans (h.2 k hk)⟩
theorem FH.n {s s' : St} (h : FH s s') : FRn s s' := ⟨h.1.wide (by decide) (by decide), h.2.2⟩
theorem CRa.frn {s s' : St} {p : Nat} {rw : List Nat} (h : CRa s p rw) (f : FRn s s') : CRa s' p rw := ⟨h.1, fun i hi => by rw [f.1.ga 27 (by decide)]; exact h.2 i hi⟩
theorem TLr.fh {s s' : St} {vs : List Int32} (T : TLr s vs) (f : FH s s') : TLr s' vs := by
  unfold TLr at T ⊢
  rw [f.1.gi 2241 (by decide), f.1.ga 36 (by decide), f.1.ga 37 (by decide)]
  exact T
theorem TSr.fh {s s' : St} {vs : List Int32} (T : TSr s vs) (f : FH s s') : TSr s' vs := by
  refine ⟨T.1.fh f, ?_⟩
  rw [f.2.1, f.1.gi 2243 (by decide), f.1.gi 2244 (by decide), f.1.gi 2245 (by decide)]
  exact T.2
theorem gathR {F h m k f p e : Nat} (hF : 5000 ≤ F) {s0 : St} {L : Nat → LR} {pk : List Nat} {ch : Option (List CT)} {base : List Int64} (W : LW s0 L m h pk) (hk : agc k = true) (hf : (k = 110 ∧ f = 0) ∨ (k ≠ 110 ∧ fdc f = true)) (hch : ∀ c, ch = some c → okC c) (hsz : base.length + wtO ch ≤ 40) (Cp : gA s0 27 p = io k) (hp : p < 80) (C : CRa s0 (p + 3) (chO ch)) (he : p + 3 + (chO ch).length = e) :
    ∀ j n i s, i + j = pk.length → j < n → FRn s0 s → RS s base → TSr s ((((ev L pk).take i).filter (chB ch)).map (fld f)) → ∃ s', f_Runner_gather_b46 F n s (io p) (io (p + 3)) (io f) (io e) (io i) = some (io e, s') ∧ FRn s0 s' ∧ RS s' (aggv (ev L pk) k f ch :: base) ∧ ∃ vs, TLr s' vs := by
  have hkl : k < 2147483648 := by unfold agc at hk; have := of_decide_eq_true hk; omega
  have hpl := W.2.2.2.2.1
  have hbl : base.length ≤ 39 := by
    have : 1 ≤ wtO ch := by unfold wtO; split <;> omega
    omega
  have he80 : e ≤ 80 := by have := C.1; omega
  intro j
  induction j with
  | zero =>
    intro n i s hi hn hfr R T
    obtain ⟨n, rfl⟩ : ∃ n', n = n' + 1 := ⟨n - 1, by omega⟩
    have hi' : i = pk.length := by omega
    subst hi'
    have W' := W.fr hfr.1
    have e1 := W'.2.2.2.1.1
    rw [List.take_of_length_le (by unfold ev; rw [List.length_map]; exact Nat.le_refl _)] at T
    have hres := result_eqr (F := F) (k := k) hF hkl T
    have Cp' : gA s 27 p = io k := by rw [hfr.1.ga 27 (by decide)]; exact Cp
    obtain ⟨s', a1, a2, a3, a4, a5, a6⟩ := pushR (F := F) (x := aggv (ev L pk) k f ch) R hbl
    refine ⟨s', ?_, hfr.trans a2.n, a3, _, T.1.fh a2⟩
    have hres' : f_Tally_resultr F s (io k) = some (aggv (ev L pk) k f ch, s) := hres
    simp (disch := omega) only [f_Runner_gather_b46, Option.bind_some, Nat.reduceEqDiff, Nat.add_zero, Nat.zero_add, Nat.reduceLT, Nat.reduceLeDiff, Nat.reduceAdd, Nat.reduceSub, Nat.reduceMul, Nat.reduceDiv, Nat.lt_irrefl, Nat.not_lt_zero, Nat.zero_le, Nat.one_ne_zero, Nat.succ_ne_zero,  lt_def, i32_lit, reduceIte, P_isIn_eq, or_false, false_or, or_true, true_or, and_true, true_and, and_false, false_and, not_true, not_false_eq_true, eq_self, if_true, if_false, not_or, not_and, Nat.not_lt, Nat.not_le, e1, io_le, Nat.le_refl, ix_io, Cp', hres', a1]
  | succ j ih =>
    intro n i s hi hn hfr R T
    obtain ⟨n, rfl⟩ : ∃ n', n = n' + 1 := ⟨n - 1, by omega⟩
    have W' := W.fr hfr.1
    have e1 := W'.2.2.2.1.1
    have hlt : i < pk.length := by omega
    have n1 : ¬ pk.length ≤ i := by omega
    have n2 : ¬ 100 ≤ i := by omega
    have e11 := W'.2.2.2.1.2 i hlt
    have hkm : pk[i] < m := W.2.2.2.2.2 _ (List.getElem_mem hlt)
    have hfl := fil_len (L := L) (pk := pk) (i := i) (p := chB ch) (f := fld f)
    -- the value comes in
    have key : ∀ s, FRn s0 s → RS s base → TSr s ((((ev L pk).take i).filter (chB ch)).map (fld f)) → chB ch (rec1 (L pk[i])) = true → ∃ s', f_Runner_gather_b96 F (f_Runner_gather_b46 F n) s (io p) (io (p + 3)) (io f) (io e) (io i) (io (rI (L pk[i]))) = some (io e, s') ∧ FRn s0 s' ∧ RS s' (aggv (ev L pk) k f ch :: base) ∧ ∃ vs, TLr s' vs := by
      intro s hfr R T hc
      have W' := W.fr hfr.1
      obtain ⟨s1, a1, a2, a3, a4⟩ := add_eqr (F := F) T (fld_ok (f := f) W.2.1 hkm) (by omega)
      have hf1 : FRn s0 s1 := hfr.trans ⟨a3.wide (by decide) (by decide), fun _ _ => by rw [a4]⟩
      obtain ⟨s2, b1, b2, b3⟩ := ih n (i + 1) s1 (by omega) (by omega) hf1 (R.fr (a3.gi 2178 (by decide)) (by rw [a4])) (by rw [ev_snoc hlt, if_pos hc]; exact a2)
      refine ⟨s2, ?_, b2, b3⟩
      rcases hf with ⟨x1, x2⟩ | ⟨x1, x2⟩
      · have e0 : fld f (rec1 (L pk[i])) = io 0 := by rw [x2]; rfl
        rw [e0] at a1
        subst x2
        simp (disch := omega) only [f_Runner_gather_b96, Option.bind_some, Nat.reduceEqDiff, Nat.add_zero, Nat.zero_add, Nat.reduceLT, Nat.reduceLeDiff, Nat.reduceAdd, Nat.reduceSub, Nat.reduceMul, Nat.reduceDiv, Nat.lt_irrefl, Nat.not_lt_zero, Nat.zero_le, Nat.one_ne_zero, Nat.succ_ne_zero,  lt_def, i32_lit, reduceIte, P_isIn_eq, or_false, false_or, or_true, true_or, and_true, true_and, and_false, false_and, not_true, not_false_eq_true, eq_self, if_true, if_false, not_or, not_and, Nat.not_lt, Nat.not_le, a1, io_add]
        exact b1
      · have hf' : f = 112 ∨ f = 108 ∨ f = 118 ∨ f = 104 := of_decide_eq_true x2
        have hfo := fieldOf_eq (F := F) (f := f) W'.1 W'.2.1 W'.2.2.1 hkm (by omega)
        have n0 : ¬ f = 0 := by omega
        simp (disch := omega) only [f_Runner_gather_b96, Option.bind_some, Nat.reduceEqDiff, Nat.add_zero, Nat.zero_add, Nat.reduceLT, Nat.reduceLeDiff, Nat.reduceAdd, Nat.reduceSub, Nat.reduceMul, Nat.reduceDiv, Nat.lt_irrefl, Nat.not_lt_zero, Nat.zero_le, Nat.one_ne_zero, Nat.succ_ne_zero,  lt_def, i32_lit, reduceIte, P_isIn_eq, or_false, false_or, or_true, true_or, and_true, true_and, and_false, false_and, not_true, not_false_eq_true, eq_self, if_true, if_false, not_or, not_and, Nat.not_lt, Nat.not_le, io_eq, n0, hfo, a1, io_add]
        exact b1
    cases ch with
    | none =>
      have hep : p + 3 = e := he
      obtain ⟨s', c1, c2⟩ := key s hfr R T rfl
      refine ⟨s', ?_, c2⟩
      simp (disch := omega) only [f_Runner_gather_b46, Option.bind_some, Nat.reduceEqDiff, Nat.add_zero, Nat.zero_add, Nat.reduceLT, Nat.reduceLeDiff, Nat.reduceAdd, Nat.reduceSub, Nat.reduceMul, Nat.reduceDiv, Nat.lt_irrefl, Nat.not_lt_zero, Nat.zero_le, Nat.one_ne_zero, Nat.succ_ne_zero,  lt_def, i32_lit, reduceIte, P_isIn_eq, or_false, false_or, or_true, true_or, and_true, true_and, and_false, false_and, not_true, not_false_eq_true, eq_self, if_true, if_false, not_or, not_and, Nat.not_lt, Nat.not_le, e1, io_le, n1, n2, ix_io, e11, io_eq, hep]
      rw [hep] at c1
      exact c1
    | some cc =>
      have hok := hch cc rfl
      have hpos := chrow_pos hok
      have he' : p + 3 + (chrow cc).length = e := he
      have hne : ¬ p + 3 = e := by omega
      have hsz' : base.length + (cc.length + 3) ≤ 40 := hsz
      have C' : CRa s (p + 3) (chrow cc) := C.frn hfr
      have hlen80 : (chrow cc).length ≤ 80 := by omega
      obtain ⟨s1, y1, y2, y3⟩ := holdsR (F := F) (base := base) W'.1 W'.2.1 W'.2.2.1 hkm he80 cc F (p + 3) (p + 3) s [] C' he' hok.1 (hok.2 0) (by show base.length + 0 + cc.length ≤ 38; omega) (Nat.le_refl _) (by omega) FH.rf R
      have y1' : f_Runner_holds F s (io (p + 3)) (io e) (io (rI (L pk[i]))) = some (if chB (some cc) (rec1 (L pk[i])) = true then io 1 else io 0, s1) := y1
      have T1 : TSr s1 ((((ev L pk).take i).filter (chB (some cc))).map (fld f)) := T.fh y2
      by_cases hb : chB (some cc) (rec1 (L pk[i])) = true
      · rw [if_pos hb] at y1'
        obtain ⟨s', c1, c2⟩ := key s1 (hfr.trans y2.n) y3 T1 hb
        refine ⟨s', ?_, c2⟩
        simp (disch := omega) only [f_Runner_gather_b46, Option.bind_some, Nat.reduceEqDiff, Nat.add_zero, Nat.zero_add, Nat.reduceLT, Nat.reduceLeDiff, Nat.reduceAdd, Nat.reduceSub, Nat.reduceMul, Nat.reduceDiv, Nat.lt_irrefl, Nat.not_lt_zero, Nat.zero_le, Nat.one_ne_zero, Nat.succ_ne_zero,  lt_def, i32_lit, reduceIte, P_isIn_eq, or_false, false_or, or_true, true_or, and_true, true_and, and_false, false_and, not_true, not_false_eq_true, eq_self, if_true, if_false, not_or, not_and, Nat.not_lt, Nat.not_le, e1, io_le, n1, n2, ix_io, e11, io_eq, hne, y1']
        exact c1
      · rw [if_neg hb] at y1'
        obtain ⟨s2, b1, b2, b3⟩ := ih n (i + 1) s1 (by omega) (by omega) (hfr.trans y2.n) y3 (by rw [ev_snoc hlt, if_neg hb, List.append_nil]; exact T1)
        refine ⟨s2, ?_, b2, b3⟩
        simp (disch := omega) only [f_Runner_gather_b46, Option.bind_some, Nat.reduceEqDiff, Nat.add_zero, Nat.zero_add, Nat.reduceLT, Nat.reduceLeDiff, Nat.reduceAdd, Nat.reduceSub, Nat.reduceMul, Nat.reduceDiv, Nat.lt_irrefl, Nat.not_lt_zero, Nat.zero_le, Nat.one_ne_zero, Nat.succ_ne_zero,  lt_def, i32_lit, reduceIte, P_isIn_eq, or_false, false_or, or_true, true_or, and_true, true_and, and_false, false_and, not_true, not_false_eq_true, eq_self, if_true, if_false, not_or, not_and, Nat.not_lt, Nat.not_le, e1, io_le, n1, n2, ix_io, e11, io_eq, hne, y1', io_add]
        exact b1
section RRN
variable {F p : Nat} {s : St}
theorem run_it {m size cnt p' k : Nat} {s' : St} (hs : size ≤ 80) (hp : p < size) (hc : cnt ≤ p) (hk : gA s 27 p = io k) (hkl : k < 1000) (hna : agc k = false) (h : f_Runner_step F s (io p) (-io 1) = some (io p', s')) : f_Runner_run_b11 F (m + 1) s (io size) (io p) (io cnt) = f_Runner_run_b11 F m s' (io size) (io p') (io (cnt + 1)) := by
  have n0 : ¬ p < 0 := by omega
  have n1 : ¬ size ≤ cnt := by omega
  have n2 : ¬ size ≤ p := by omega
  have n3 : ¬ 80 ≤ p := by omega
  have hag := isAgg_eq (F := F) (s := s) hkl
  rw [if_neg (by rw [hna]; decide)] at hag
  simp (disch := omega) only [f_Runner_run_b11, Option.bind_some, Nat.reduceEqDiff, Nat.add_zero, Nat.zero_add, Nat.reduceLT, Nat.reduceLeDiff, Nat.reduceAdd, Nat.reduceSub, Nat.reduceMul, Nat.reduceDiv, Nat.lt_irrefl, Nat.not_lt_zero, Nat.zero_le, Nat.one_ne_zero, Nat.succ_ne_zero,  lt_def, i32_lit, reduceIte, P_isIn_eq, or_false, false_or, or_true, true_or, and_true, true_and, and_false, false_and, not_true, not_false_eq_true, eq_self, if_true, if_false, not_or, not_and, Nat.not_lt, Nat.not_le, io_le, io_lt, n0, n1, n2, n3, ix_io, hk, hag, h, io_add]
theorem run_ag {m size cnt p' k : Nat} {s' : St} (hs : size ≤ 80) (hp : p < size) (hc : cnt ≤ p) (hk : gA s 27 p = io k) (hkl : k < 1000) (hna : agc k = true) (h : f_Runner_gather F s (io p) = some (io p', s')) : f_Runner_run_b11 F (m + 1) s (io size) (io p) (io cnt) = f_Runner_run_b11 F m s' (io size) (io p') (io (cnt + 1)) := by
  have n0 : ¬ p < 0 := by omega
  have n1 : ¬ size ≤ cnt := by omega
  have n2 : ¬ size ≤ p := by omega
  have n3 : ¬ 80 ≤ p := by omega
  have hag := isAgg_eq (F := F) (s := s) hkl
  rw [if_pos hna] at hag
  simp (disch := omega) only [f_Runner_run_b11, Option.bind_some, Nat.reduceEqDiff, Nat.add_zero, Nat.zero_add, Nat.reduceLT, Nat.reduceLeDiff, Nat.reduceAdd, Nat.reduceSub, Nat.reduceMul, Nat.reduceDiv, Nat.lt_irrefl, Nat.not_lt_zero, Nat.zero_le, Nat.one_ne_zero, Nat.succ_ne_zero,  lt_def, i32_lit, reduceIte, P_isIn_eq, or_false, false_or, or_true, true_or, and_true, true_and, and_false, false_and, not_true, not_false_eq_true, eq_self, if_true, if_false, not_or, not_and, Nat.not_lt, Nat.not_le, io_le, io_lt, n0, n1, n2, n3, ix_io, hk, hag, io_eq, h, io_add]
end RRN
theorem runR {F h m : Nat} (hF : 5000 ≤ F) {s0 : St} {L : Nat → LR} {pk : List Nat} (W : LW s0 L m h pk) {size : Nat} (hs : size ≤ 80) : ∀ (c : List QT) (fu p cnt : Nat) (s : St) (st : List Int64), CRa s0 p (qrow c) → p + (qrow c).length = size → (∀ x ∈ c, tvQ x) → depQ c st.length = some 1 → st.length + szQ c ≤ 40 → cnt ≤ p → (qrow c).length < fu → FRn s0 s → RS s st → (∃ vs, TLr s vs) →
    ∃ s', f_Runner_run_b11 F fu s (io size) (io p) (io cnt) = some ((runQ (ev L pk) c st).headD 0, s') ∧ FRn s0 s' ∧ ∃ vs, TLr s' vs := by
  intro c
  induction c with
  | nil =>
    intro fu p cnt s st C hpe hv hd hsz hcnt hfu f R TT
    obtain ⟨fu, rfl⟩ : ∃ f', fu = f' + 1 := ⟨fu - 1, by omega⟩
    have hpe' : p = size := hpe
    have hd' : some st.length = some 1 := hd
    obtain ⟨x, rfl⟩ : ∃ x, st = [x] := by
      cases st with
      | nil => cases hd'
      | cons b cs => cases cs with
        | nil => exact ⟨b, rfl⟩
        | cons x y =>
          have h9 := Option.some.inj hd'
          have h9' : y.length + 1 + 1 = 1 := h9
          omega
    obtain ⟨a1, a2, a3⟩ := pullR (F := F) (s := s) (x := x) (st := []) R (Nat.zero_le _)
    obtain ⟨vs, T⟩ := TT
    refine ⟨sI s 2178 (io 0), ?_, f.trans a2.n, vs, T.fh a2⟩
    have a1' : f_Runner_pull F s = some (x, sI s 2178 (io 0)) := a1
    have hep : size ≤ p := by omega
    have n0 : ¬ p < 0 := by omega
    by_cases hc : size ≤ cnt
    · simp (disch := omega) only [f_Runner_run_b11, Option.bind_some, Nat.reduceEqDiff, Nat.add_zero, Nat.zero_add, Nat.reduceLT, Nat.reduceLeDiff, Nat.reduceAdd, Nat.reduceSub, Nat.reduceMul, Nat.reduceDiv, Nat.lt_irrefl, Nat.not_lt_zero, Nat.zero_le, Nat.one_ne_zero, Nat.succ_ne_zero,  lt_def, i32_lit, reduceIte, P_isIn_eq, or_false, false_or, or_true, true_or, and_true, true_and, and_false, false_and, not_true, not_false_eq_true, eq_self, if_true, if_false, not_or, not_and, Nat.not_lt, Nat.not_le, io_le, hc, a1']
      rfl
    · simp (disch := omega) only [f_Runner_run_b11, Option.bind_some, Nat.reduceEqDiff, Nat.add_zero, Nat.zero_add, Nat.reduceLT, Nat.reduceLeDiff, Nat.reduceAdd, Nat.reduceSub, Nat.reduceMul, Nat.reduceDiv, Nat.lt_irrefl, Nat.not_lt_zero, Nat.zero_le, Nat.one_ne_zero, Nat.succ_ne_zero,  lt_def, i32_lit, reduceIte, P_isIn_eq, or_false, false_or, or_true, true_or, and_true, true_and, and_false, false_and, not_true, not_false_eq_true, eq_self, if_true, if_false, not_or, not_and, Nat.not_lt, Nat.not_le, io_le, io_lt, n0, hc, hep, a1']
      rfl
  | cons x c ih =>
    intro fu p cnt s st C hpe hv hd hsz hcnt hfu f R TT
    have hrw : qrow (x :: c) = qr1 x ++ qrow c := List.flatMap_cons
    rw [hrw] at C hpe hfu
    rw [List.length_append] at hpe hfu
    have hsz' : st.length + (wtO x.2.2 + szQ c) ≤ 40 := hsz
    have hw1 : 1 ≤ wtO x.2.2 := by unfold wtO; split <;> omega
    have Ca := C.left
    have Cb := C.right
    have hd' : (dq x st.length).bind (depQ c) = some 1 := hd
    obtain ⟨vs, T⟩ := TT
    have go : ∀ (w fu' cnt' : Nat) (s' : St) (st' : List Int64), (qr1 x).length = w → stQ (ev L pk) x st = st' → st'.length ≤ st.length + 1 → dq x st.length = some st'.length → FRn s0 s' → RS s' st' → (∃ vs, TLr s' vs) → cnt' ≤ p + w → (qrow c).length < fu' → f_Runner_run_b11 F fu s (io size) (io p) (io cnt) = f_Runner_run_b11 F fu' s' (io size) (io (p + w)) (io cnt') →
        ∃ s', f_Runner_run_b11 F fu s (io size) (io p) (io cnt) = some ((runQ (ev L pk) (x :: c) st).headD 0, s') ∧ FRn s0 s' ∧ ∃ vs, TLr s' vs := by
      intro w fu' cnt' s' st' h1 h2 h3 h4 h5 h6 h6' h7 h8 h9
      rw [h9]
      rw [h4, Option.bind_some] at hd'
      have := ih fu' (p + w) cnt' s' st' (by rw [← h1]; exact Cb) (by omega) (fun y hy => hv y (List.mem_cons_of_mem _ hy)) hd' (by omega) h7 h8 h5 h6 h6'
      have e9 : runQ (ev L pk) (x :: c) st = runQ (ev L pk) c st' := by rw [← h2]; rfl
      rw [e9]
      exact this
    rcases hv x List.mem_cons_self with ⟨v1, v2, v3⟩ | v1 | ⟨v1, v2⟩ | ⟨v1, v2, v3⟩
    · obtain ⟨k, v, ch⟩ := x
      have v1' : k = 35 := v1
      subst v1'
      have hq : qr1 (35, v, ch) = [35, v] := by unfold qr1; rw [if_pos rfl]
      rw [hq] at Ca hpe hfu
      have Cs := Ca.frn f
      have hl2 : [35, v].length = 2 := rfl
      rw [hl2] at hpe hfu
      obtain ⟨s1, a1, a2, a3⟩ := step_num (F := F) (lg := -io 1) R (by omega) Cs
      obtain ⟨fu, rfl⟩ : ∃ f', fu = f' + 1 := ⟨fu - 1, by omega⟩
      refine go 2 fu (cnt + 1) s1 ((io v).toInt64 :: st) (by rw [hq]; rfl) (by unfold stQ; rw [if_pos rfl]) (Nat.le_refl _) (by unfold dq; rw [if_pos (Or.inl rfl)]; rfl) (f.trans a2.n) a3 ⟨vs, T.fh a2⟩ (by omega) (by omega) ?_
      exact run_it hs (by omega) (by omega) Cs.hd.1 (by omega) rfl a1
    · subst v1
      have hq : qr1 (126, 0, none) = [126] := rfl
      rw [hq] at Ca hpe hfu
      have Cs := Ca.frn f
      have hl2 : [126].length = 1 := rfl
      rw [hl2] at hpe hfu
      have h1 : 1 ≤ st.length := by
        rcases Nat.lt_or_ge st.length 1 with h9 | h9
        · have : dq (126, 0, none) st.length = none := by unfold dq; rw [if_neg (by decide), if_pos rfl, if_neg (by omega)]
          rw [this] at hd'; cases hd'
        · exact h9
      obtain ⟨a, st, rfl⟩ : ∃ a r, st = a :: r := by
        cases st with
        | nil => exact absurd h1 (by decide)
        | cons a r => exact ⟨a, r, rfl⟩
      have hsz2 : st.length + 1 + (wtO none + szQ c) ≤ 40 := hsz'
      obtain ⟨s1, a1, a2, a3⟩ := step_neg (F := F) (lg := -io 1) R (by omega) Cs
      obtain ⟨fu, rfl⟩ : ∃ f', fu = f' + 1 := ⟨fu - 1, by omega⟩
      refine go 1 fu (cnt + 1) s1 (-a :: st) rfl rfl (by show st.length + 1 ≤ st.length + 1 + 1; omega) ?_ (f.trans a2.n) a3 ⟨vs, T.fh a2⟩ (by omega) (by omega) ?_
      · unfold dq; rw [if_neg (by decide), if_pos rfl, if_pos (by show 1 ≤ st.length + 1; omega)]; rfl
      · exact run_it hs (by omega) (by omega) Cs.hd.1 (by omega) rfl a1
    · obtain ⟨sg, r3⟩ := x
      have v1' : qop sg := v1
      have v2' : r3 = (0, none) := v2
      subst v2'
      have nag : ¬ agc sg = true := by unfold agc; rw [decide_eq_true_eq]; unfold qop at v1'; omega
      have n35 : ¬ sg = 35 := by unfold qop at v1'; omega
      have n126 : ¬ sg = 126 := by unfold qop at v1'; omega
      have hlt : sg < 1000 := by unfold qop at v1'; omega
      have hq : qr1 (sg, 0, none) = [sg] := by unfold qr1; rw [if_neg n35, if_neg nag]
      rw [hq] at Ca hpe hfu
      have Cs := Ca.frn f
      have hl2 : [sg].length = 1 := rfl
      rw [hl2] at hpe hfu
      have hdn : ∀ e, dq (sg, 0, none) e = if 2 ≤ e then some (e - 1) else none := fun e => by unfold dq; rw [if_neg (fun h => h.elim n35 nag), if_neg n126]
      have h2 : 2 ≤ st.length := by
        rcases Nat.lt_or_ge st.length 2 with h9 | h9
        · rw [hdn, if_neg (by omega)] at hd'; cases hd'
        · exact h9
      obtain ⟨b, a, st, rfl⟩ : ∃ b a r, st = b :: a :: r := by
        cases st with
        | nil => exact absurd h2 (by decide)
        | cons b r =>
          cases r with
          | nil => have h9 : 2 ≤ 1 := h2; omega
          | cons a r => exact ⟨b, a, r, rfl⟩
      have hsz2 : st.length + 1 + 1 + (wtO none + szQ c) ≤ 40 := hsz'
      have hw0 : wtO none = 1 := rfl
      obtain ⟨s1, a1, a2, a3⟩ := step_bin (F := F) (lg := -io 1) R (by omega) Cs (Or.inl v1') (fun s => comb_Q v1')
      obtain ⟨fu, rfl⟩ : ∃ f', fu = f' + 1 := ⟨fu - 1, by omega⟩
      refine go 1 fu (cnt + 1) s1 (cmb sg a b :: st) (by rw [hq]; rfl) (by unfold stQ; rw [if_neg n35, if_neg nag, if_neg n126]) (by show st.length + 1 ≤ st.length + 1 + 1 + 1; omega) ?_ (f.trans a2.n) a3 ⟨vs, T.fh a2⟩ (by omega) (by omega) ?_
      · rw [hdn, if_pos (by show 2 ≤ st.length + 1 + 1; omega)]; rfl
      · exact run_it hs (by omega) (by omega) Cs.hd.1 hlt (by simpa using nag) a1
    · obtain ⟨k, fi, ch⟩ := x
      have v1' : agc k = true := v1
      have n35 : ¬ k = 35 := fun e => by rw [e] at v1'; exact absurd v1' (by decide)
      have hlt : k < 1000 := by unfold agc at v1'; have := of_decide_eq_true v1'; omega
      have hq : qr1 (k, fi, ch) = [k, fi, (chO ch).length] ++ chO ch := by unfold qr1; rw [if_neg n35, if_pos v1']
      rw [hq] at Ca hpe hfu
      have Cs := Ca.frn f
      have hl2 : ([k, fi, (chO ch).length] ++ chO ch).length = 3 + (chO ch).length := by rw [List.length_append]; rfl
      rw [hl2] at hpe hfu
      have Cs3 : CRa s (p + 3) (chO ch) := Cs.right
      have Cs0 : CRa s p (k :: fi :: (chO ch).length :: chO ch) := Cs
      have k1 := Cs0.hd.1
      have k2 := Cs0.tl.hd.1
      have k3 : gA s 27 (p + 2) = io (chO ch).length := Cs0.tl.tl.hd.1
      have hp3 : p + 3 ≤ 80 := by have := Cs3.1; omega
      have hsz2 : st.length + (wtO ch + szQ c) ≤ 40 := hsz'
      obtain ⟨s1, a1, a2, a3, a4⟩ := clear_eqr (F := F) hF T
      have f1 : FRn s s1 := ⟨a3.wide (by decide) (by decide), fun _ _ => by rw [a4]⟩
      obtain ⟨s2, b1, b2, b3, b4⟩ := gathR (F := F) (k := k) (f := fi) (p := p) (base := st) hF (W.fr (f.trans f1).1) v1' v2 (fun cc h => (v3 cc h).1) (by omega) (by rw [a3.ga 27 (by decide)]; exact k1) (by omega) (Cs3.frn f1) rfl pk.length F 0 s1 (by omega) (by have := W.2.2.2.2.1; omega) FRn.rf (R.fr (a3.gi 2178 (by decide)) (by rw [a4])) a2
      have hga : f_Runner_gather F s (io p) = some (io (p + (3 + (chO ch).length)), s2) := by
        have n0 : ¬ p < 0 := by omega
        have b1' : f_Runner_gather_b46 F F s1 (io p) (io (p + 3)) (io fi) (io (p + (3 + (chO ch).length))) (io 0) = some (io (p + (3 + (chO ch).length)), s2) := by
          rw [show p + (3 + (chO ch).length) = p + 3 + (chO ch).length by omega]; exact b1
        simp (disch := omega) only [f_Runner_gather, Option.bind_some, Nat.reduceEqDiff, Nat.add_zero, Nat.zero_add, Nat.reduceLT, Nat.reduceLeDiff, Nat.reduceAdd, Nat.reduceSub, Nat.reduceMul, Nat.reduceDiv, Nat.lt_irrefl, Nat.not_lt_zero, Nat.zero_le, Nat.one_ne_zero, Nat.succ_ne_zero,  lt_def, i32_lit, reduceIte, P_isIn_eq, or_false, false_or, or_true, true_or, and_true, true_and, and_false, false_and, not_true, not_false_eq_true, eq_self, if_true, if_false, not_or, not_and, Nat.not_lt, Nat.not_le, io_lt, n0, io_add, io_le, hp3, ix_io, a1, k2, k3]
        rw [show p + 3 + (chO ch).length = p + (3 + (chO ch).length) by omega]
        exact b1'
      obtain ⟨fu, rfl⟩ : ∃ f', fu = f' + 1 := ⟨fu - 1, by omega⟩
      refine go (3 + (chO ch).length) fu (cnt + 1) s2 (aggv (ev L pk) k fi ch :: st) (by rw [hq]; exact hl2) (by unfold stQ; rw [if_neg n35, if_pos v1']) (Nat.le_refl _) (by unfold dq; rw [if_pos (Or.inr v1')]; rfl) ((f.trans f1).trans b2) b3 b4 (by omega) (by omega) ?_
      exact run_ag hs (by omega) (by omega) k1 hlt v1' hga
theorem coderun_eq {F h m n : Nat} (hF : 5000 ≤ F) {t : Nat → Nat} (T : TXT t n) {L : Nat → LR} {pk : List Nat} {s : St} {c : List QT} (hq : ques t n = some c) (C : CR s (qrow c)) (W : LW s L m h pk) (TT : ∃ vs, TLr s vs) : ∃ s', f_Runner_run F s (gI s 1665) = some (valQ (ev L pk) c, s') ∧ FRn s s' ∧ ∃ vs, TLr s' vs := by
  have hn := T.1
  obtain ⟨q1, q2, q3, q4, q5⟩ := ques_ok T hq
  have hw := ques_wt T hq
  obtain ⟨vs, T0⟩ := TT
  have f0 : FRn s (sI s 2178 (io 0)) := ⟨Fr.rf.I (by decide), fun _ _ => rfl⟩
  obtain ⟨s', a1, a2, a3⟩ := runR (F := F) hF W C.1 c F 0 0 (sI s 2178 (io 0)) [] ⟨by rw [Nat.zero_add]; exact C.1, fun i hi => by rw [Nat.zero_add]; exact C.2.2 i hi⟩ (Nat.zero_add _) q1.1 (q1.2 0) (by show 0 + szQ c ≤ 40; omega) (Nat.le_refl _) (by have := C.1; omega) f0 ⟨rfl, trivial⟩ ⟨vs, T0⟩
  refine ⟨s', ?_, a2, a3⟩
  rw [C.2.1]
  simp (disch := omega) only [f_Runner_run, Option.bind_some, Nat.reduceEqDiff, Nat.add_zero, Nat.zero_add, Nat.reduceLT, Nat.reduceLeDiff, Nat.reduceAdd, Nat.reduceSub, Nat.reduceMul, Nat.reduceDiv, Nat.lt_irrefl, Nat.not_lt_zero, Nat.zero_le, Nat.one_ne_zero, Nat.succ_ne_zero,  lt_def, i32_lit, reduceIte, P_isIn_eq, or_false, false_or, or_true, true_or, and_true, true_and, and_false, false_and, not_true, not_false_eq_true, eq_self, if_true, if_false, not_or, not_and, Nat.not_lt, Nat.not_le]
  exact a1

