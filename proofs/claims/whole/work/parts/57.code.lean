/-! the class turns a text into codes: its pile and row -/
def rkP (x : Nat) : Nat := if x = 124 then 1 else if x = 38 then 2 else if x = 33 then 3 else if x = 60 ∨ x = 62 ∨ x = 61 then 4 else if x = 43 ∨ x = 45 then 5 else if x = 42 ∨ x = 47 then 6 else if x = 126 then 7 else 0
theorem rkP_le (x : Nat) : rkP x ≤ 7 := by unfold rkP; repeat (first | omega | split)
theorem rankP_eq {F x : Nat} {s : St} (hx : x < 1000) : f_Coder_rankOf F s (io x) = some (io (rkP x), s) := by
  unfold rkP
  by_cases h1 : x = 33
  · subst h1; simp (disch := omega) only [f_Coder_rankOf, Option.bind_some, Nat.reduceEqDiff, Nat.add_zero, Nat.zero_add, Nat.reduceLT, Nat.reduceLeDiff, Nat.reduceAdd, Nat.reduceSub, Nat.reduceMul, Nat.reduceDiv, Nat.lt_irrefl, Nat.not_lt_zero, Nat.zero_le, Nat.one_ne_zero, Nat.succ_ne_zero,  lt_def, i32_lit, reduceIte, P_isIn_eq, M_isIn_eq, M_goes_eq, or_false, false_or, or_true, true_or, and_true, true_and, and_false, false_and, not_true, not_false_eq_true, eq_self, if_true, if_false, not_or, not_and, Nat.not_lt, Nat.not_le, io_eq]
  · by_cases h2 : x = 38
    · subst h2; simp (disch := omega) only [f_Coder_rankOf, Option.bind_some, Nat.reduceEqDiff, Nat.add_zero, Nat.zero_add, Nat.reduceLT, Nat.reduceLeDiff, Nat.reduceAdd, Nat.reduceSub, Nat.reduceMul, Nat.reduceDiv, Nat.lt_irrefl, Nat.not_lt_zero, Nat.zero_le, Nat.one_ne_zero, Nat.succ_ne_zero,  lt_def, i32_lit, reduceIte, P_isIn_eq, M_isIn_eq, M_goes_eq, or_false, false_or, or_true, true_or, and_true, true_and, and_false, false_and, not_true, not_false_eq_true, eq_self, if_true, if_false, not_or, not_and, Nat.not_lt, Nat.not_le, io_eq]
    · by_cases h3 : x = 42
      · subst h3; simp (disch := omega) only [f_Coder_rankOf, Option.bind_some, Nat.reduceEqDiff, Nat.add_zero, Nat.zero_add, Nat.reduceLT, Nat.reduceLeDiff, Nat.reduceAdd, Nat.reduceSub, Nat.reduceMul, Nat.reduceDiv, Nat.lt_irrefl, Nat.not_lt_zero, Nat.zero_le, Nat.one_ne_zero, Nat.succ_ne_zero,  lt_def, i32_lit, reduceIte, P_isIn_eq, M_isIn_eq, M_goes_eq, or_false, false_or, or_true, true_or, and_true, true_and, and_false, false_and, not_true, not_false_eq_true, eq_self, if_true, if_false, not_or, not_and, Nat.not_lt, Nat.not_le, io_eq]
      · by_cases h4 : x = 43
        · subst h4; simp (disch := omega) only [f_Coder_rankOf, Option.bind_some, Nat.reduceEqDiff, Nat.add_zero, Nat.zero_add, Nat.reduceLT, Nat.reduceLeDiff, Nat.reduceAdd, Nat.reduceSub, Nat.reduceMul, Nat.reduceDiv, Nat.lt_irrefl, Nat.not_lt_zero, Nat.zero_le, Nat.one_ne_zero, Nat.succ_ne_zero,  lt_def, i32_lit, reduceIte, P_isIn_eq, M_isIn_eq, M_goes_eq, or_false, false_or, or_true, true_or, and_true, true_and, and_false, false_and, not_true, not_false_eq_true, eq_self, if_true, if_false, not_or, not_and, Nat.not_lt, Nat.not_le, io_eq]
        · by_cases h5 : x = 45
          · subst h5; simp (disch := omega) only [f_Coder_rankOf, Option.bind_some, Nat.reduceEqDiff, Nat.add_zero, Nat.zero_add, Nat.reduceLT, Nat.reduceLeDiff, Nat.reduceAdd, Nat.reduceSub, Nat.reduceMul, Nat.reduceDiv, Nat.lt_irrefl, Nat.not_lt_zero, Nat.zero_le, Nat.one_ne_zero, Nat.succ_ne_zero,  lt_def, i32_lit, reduceIte, P_isIn_eq, M_isIn_eq, M_goes_eq, or_false, false_or, or_true, true_or, and_true, true_and, and_false, false_and, not_true, not_false_eq_true, eq_self, if_true, if_false, not_or, not_and, Nat.not_lt, Nat.not_le, io_eq]
          · by_cases h6 : x = 47
            · subst h6; simp (disch := omega) only [f_Coder_rankOf, Option.bind_some, Nat.reduceEqDiff, Nat.add_zero, Nat.zero_add, Nat.reduceLT, Nat.reduceLeDiff, Nat.reduceAdd, Nat.reduceSub, Nat.reduceMul, Nat.reduceDiv, Nat.lt_irrefl, Nat.not_lt_zero, Nat.zero_le, Nat.one_ne_zero, Nat.succ_ne_zero,  lt_def, i32_lit, reduceIte, P_isIn_eq, M_isIn_eq, M_goes_eq, or_false, false_or, or_true, true_or, and_true, true_and, and_false, false_and, not_true, not_false_eq_true, eq_self, if_true, if_false, not_or, not_and, Nat.not_lt, Nat.not_le, io_eq]
            · by_cases h7 : x = 60
              · subst h7; simp (disch := omega) only [f_Coder_rankOf, Option.bind_some, Nat.reduceEqDiff, Nat.add_zero, Nat.zero_add, Nat.reduceLT, Nat.reduceLeDiff, Nat.reduceAdd, Nat.reduceSub, Nat.reduceMul, Nat.reduceDiv, Nat.lt_irrefl, Nat.not_lt_zero, Nat.zero_le, Nat.one_ne_zero, Nat.succ_ne_zero,  lt_def, i32_lit, reduceIte, P_isIn_eq, M_isIn_eq, M_goes_eq, or_false, false_or, or_true, true_or, and_true, true_and, and_false, false_and, not_true, not_false_eq_true, eq_self, if_true, if_false, not_or, not_and, Nat.not_lt, Nat.not_le, io_eq]
              · by_cases h8 : x = 61
                · subst h8; simp (disch := omega) only [f_Coder_rankOf, Option.bind_some, Nat.reduceEqDiff, Nat.add_zero, Nat.zero_add, Nat.reduceLT, Nat.reduceLeDiff, Nat.reduceAdd, Nat.reduceSub, Nat.reduceMul, Nat.reduceDiv, Nat.lt_irrefl, Nat.not_lt_zero, Nat.zero_le, Nat.one_ne_zero, Nat.succ_ne_zero,  lt_def, i32_lit, reduceIte, P_isIn_eq, M_isIn_eq, M_goes_eq, or_false, false_or, or_true, true_or, and_true, true_and, and_false, false_and, not_true, not_false_eq_true, eq_self, if_true, if_false, not_or, not_and, Nat.not_lt, Nat.not_le, io_eq]
                · by_cases h9 : x = 62
                  · subst h9; simp (disch := omega) only [f_Coder_rankOf, Option.bind_some, Nat.reduceEqDiff, Nat.add_zero, Nat.zero_add, Nat.reduceLT, Nat.reduceLeDiff, Nat.reduceAdd, Nat.reduceSub, Nat.reduceMul, Nat.reduceDiv, Nat.lt_irrefl, Nat.not_lt_zero, Nat.zero_le, Nat.one_ne_zero, Nat.succ_ne_zero,  lt_def, i32_lit, reduceIte, P_isIn_eq, M_isIn_eq, M_goes_eq, or_false, false_or, or_true, true_or, and_true, true_and, and_false, false_and, not_true, not_false_eq_true, eq_self, if_true, if_false, not_or, not_and, Nat.not_lt, Nat.not_le, io_eq]
                  · by_cases h10 : x = 124
                    · subst h10; simp (disch := omega) only [f_Coder_rankOf, Option.bind_some, Nat.reduceEqDiff, Nat.add_zero, Nat.zero_add, Nat.reduceLT, Nat.reduceLeDiff, Nat.reduceAdd, Nat.reduceSub, Nat.reduceMul, Nat.reduceDiv, Nat.lt_irrefl, Nat.not_lt_zero, Nat.zero_le, Nat.one_ne_zero, Nat.succ_ne_zero,  lt_def, i32_lit, reduceIte, P_isIn_eq, M_isIn_eq, M_goes_eq, or_false, false_or, or_true, true_or, and_true, true_and, and_false, false_and, not_true, not_false_eq_true, eq_self, if_true, if_false, not_or, not_and, Nat.not_lt, Nat.not_le, io_eq]
                    · by_cases h11 : x = 126
                      · subst h11; simp (disch := omega) only [f_Coder_rankOf, Option.bind_some, Nat.reduceEqDiff, Nat.add_zero, Nat.zero_add, Nat.reduceLT, Nat.reduceLeDiff, Nat.reduceAdd, Nat.reduceSub, Nat.reduceMul, Nat.reduceDiv, Nat.lt_irrefl, Nat.not_lt_zero, Nat.zero_le, Nat.one_ne_zero, Nat.succ_ne_zero,  lt_def, i32_lit, reduceIte, P_isIn_eq, M_isIn_eq, M_goes_eq, or_false, false_or, or_true, true_or, and_true, true_and, and_false, false_and, not_true, not_false_eq_true, eq_self, if_true, if_false, not_or, not_and, Nat.not_lt, Nat.not_le, io_eq]
                      · simp (disch := omega) only [f_Coder_rankOf, Option.bind_some, Nat.reduceEqDiff, Nat.add_zero, Nat.zero_add, Nat.reduceLT, Nat.reduceLeDiff, Nat.reduceAdd, Nat.reduceSub, Nat.reduceMul, Nat.reduceDiv, Nat.lt_irrefl, Nat.not_lt_zero, Nat.zero_le, Nat.one_ne_zero, Nat.succ_ne_zero,  lt_def, i32_lit, reduceIte, P_isIn_eq, M_isIn_eq, M_goes_eq, or_false, false_or, or_true, true_or, and_true, true_and, and_false, false_and, not_true, not_false_eq_true, eq_self, if_true, if_false, not_or, not_and, Nat.not_lt, Nat.not_le, io_eq, h1, h2, h3, h4, h5, h6, h7, h8, h9, h10, h11, or_self]
def CB (s : St) (pl : List PR) (c : List Nat) : Prop := gI s 1668 = io pl.length ∧ stk (gA s 28) (pl.map Prod.fst) ∧ stk (gA s 29) (pl.map Prod.snd) ∧ gI s 1665 = io c.length ∧ ∀ i (h : i < c.length), gA s 27 i = io c[i]
/-- the text that the class reads -/
def CX2 (t : Nat → Nat) (n : Nat) (s : St) : Prop := ∀ k, k < n → gA s 1 k = io (t k)
def FC (s s' : St) : Prop := Fr [1665, 1668, 1669] [27, 28, 29] s s' ∧ gJ s' = gJ s
theorem FC.rf {s : St} : FC s s := ⟨Fr.rf, rfl⟩
theorem FC.trans {s s1 s2 : St} (h : FC s s1) (h2 : FC s1 s2) : FC s s2 := ⟨h.1.trans h2.1, h2.2.trans h.2⟩
theorem FC.I {s s1 : St} (h : FC s s1) {k : Nat} {x : Int32} (hk : k ∈ [1665, 1668, 1669]) : FC s (sI s1 k x) := ⟨h.1.I hk, h.2⟩
theorem FC.A {s s1 : St} (h : FC s s1) {k i : Nat} {x : Int32} (hk : k ∈ [27, 28, 29]) : FC s (sA s1 k i x) := ⟨h.1.A hk, h.2⟩
theorem FC.cx {t : Nat → Nat} {n : Nat} {s s' : St} (h : FC s s') (H : CX2 t n s) : CX2 t n s' := fun k hk => by rw [h.1.ga 1 (by decide)]; exact H k hk
theorem CB.I9 {s : St} {pl : List PR} {c : List Nat} {x : Int32} (H : CB s pl c) : CB (sI s 1669 x) pl c := H
theorem push_eq {F x : Nat} {s : St} {pl : List PR} {c : List Nat} (H : CB s pl c) (hp : pl.length ≤ 39) : ∃ s', f_Coder_push F s (io x) = some s' ∧ FC s s' ∧ CB s' ((x, c.length) :: pl) c ∧ gI s' 1669 = gI s 1669 := by
  obtain ⟨h1, h2, h3, h4, h5⟩ := H
  refine ⟨sI (sA (sA s 28 pl.length (io x)) 29 pl.length (io c.length)) 1668 (io (pl.length + 1)), ?_, ((FC.rf.A (by decide)).A (by decide)).I (by decide), ⟨rfl, ⟨?_, stk_ext _ (fun i hi => ?_) h2⟩, ⟨?_, stk_ext _ (fun i hi => ?_) h3⟩, h4, h5⟩, rfl⟩
  · have c1 : ¬ 39 < pl.length := by omega
    have c0 : ¬ pl.length < 0 := by omega
    simp (disch := omega) only [f_Coder_push, Option.bind_some, Nat.reduceEqDiff, Nat.add_zero, Nat.zero_add, Nat.reduceLT, Nat.reduceLeDiff, Nat.reduceAdd, Nat.reduceSub, Nat.reduceMul, Nat.reduceDiv, Nat.lt_irrefl, Nat.not_lt_zero, Nat.zero_le, Nat.one_ne_zero, Nat.succ_ne_zero,  lt_def, i32_lit, reduceIte, P_isIn_eq, M_isIn_eq, M_goes_eq, or_false, false_or, or_true, true_or, and_true, true_and, and_false, false_and, not_true, not_false_eq_true, eq_self, if_true, if_false, not_or, not_and, Nat.not_lt, Nat.not_le, h1, io_lt, c0, io_sub, c1, io_eq, ix_io, gI_sA, h4, io_add]
  · rw [List.length_map]; simp only [gI_sI, gI_sA, gI_sL, gI_sJ, gI_sR, gI_sQ, gI_sD, gI_sN, gI_sz, gA_sI, gA_sA, gA_sL, gA_sJ, gA_sR, gA_sQ, gA_sD, gA_sN, gA_sz, gL_sI, gL_sA, gL_sL, gL_sJ, gL_sR, gL_sQ, gL_sD, gL_sN, gL_sz, gJ_sI, gJ_sA, gJ_sL, gJ_sJ, gJ_sR, gJ_sQ, gJ_sD, gJ_sN, gJ_sz, gR_sI, gR_sA, gR_sL, gR_sJ, gR_sR, gR_sQ, gR_sD, gR_sN, gR_sz, gQ_sI, gQ_sA, gQ_sL, gQ_sJ, gQ_sR, gQ_sQ, gQ_sD, gQ_sN, gQ_sz, gD_sI, gD_sA, gD_sL, gD_sJ, gD_sR, gD_sQ, gD_sD, gD_sN, gD_sz, sz_sI, sz_sA, sz_sL, sz_sJ, sz_sR, sz_sQ, sz_sD, sz_sN, sz_sz, reduceIte, Nat.reduceEqDiff]
  · rw [List.length_map] at hi
    simp only [gI_sI, gI_sA, gI_sL, gI_sJ, gI_sR, gI_sQ, gI_sD, gI_sN, gI_sz, gA_sI, gA_sA, gA_sL, gA_sJ, gA_sR, gA_sQ, gA_sD, gA_sN, gA_sz, gL_sI, gL_sA, gL_sL, gL_sJ, gL_sR, gL_sQ, gL_sD, gL_sN, gL_sz, gJ_sI, gJ_sA, gJ_sL, gJ_sJ, gJ_sR, gJ_sQ, gJ_sD, gJ_sN, gJ_sz, gR_sI, gR_sA, gR_sL, gR_sJ, gR_sR, gR_sQ, gR_sD, gR_sN, gR_sz, gQ_sI, gQ_sA, gQ_sL, gQ_sJ, gQ_sR, gQ_sQ, gQ_sD, gQ_sN, gQ_sz, gD_sI, gD_sA, gD_sL, gD_sJ, gD_sR, gD_sQ, gD_sD, gD_sN, gD_sz, sz_sI, sz_sA, sz_sL, sz_sJ, sz_sR, sz_sQ, sz_sD, sz_sN, sz_sz, reduceIte, Nat.reduceEqDiff]; rw [if_neg (by omega)]
  · rw [List.length_map]; simp only [gI_sI, gI_sA, gI_sL, gI_sJ, gI_sR, gI_sQ, gI_sD, gI_sN, gI_sz, gA_sI, gA_sA, gA_sL, gA_sJ, gA_sR, gA_sQ, gA_sD, gA_sN, gA_sz, gL_sI, gL_sA, gL_sL, gL_sJ, gL_sR, gL_sQ, gL_sD, gL_sN, gL_sz, gJ_sI, gJ_sA, gJ_sL, gJ_sJ, gJ_sR, gJ_sQ, gJ_sD, gJ_sN, gJ_sz, gR_sI, gR_sA, gR_sL, gR_sJ, gR_sR, gR_sQ, gR_sD, gR_sN, gR_sz, gQ_sI, gQ_sA, gQ_sL, gQ_sJ, gQ_sR, gQ_sQ, gQ_sD, gQ_sN, gQ_sz, gD_sI, gD_sA, gD_sL, gD_sJ, gD_sR, gD_sQ, gD_sD, gD_sN, gD_sz, sz_sI, sz_sA, sz_sL, sz_sJ, sz_sR, sz_sQ, sz_sD, sz_sN, sz_sz, reduceIte, Nat.reduceEqDiff]
  · rw [List.length_map] at hi
    simp only [gI_sI, gI_sA, gI_sL, gI_sJ, gI_sR, gI_sQ, gI_sD, gI_sN, gI_sz, gA_sI, gA_sA, gA_sL, gA_sJ, gA_sR, gA_sQ, gA_sD, gA_sN, gA_sz, gL_sI, gL_sA, gL_sL, gL_sJ, gL_sR, gL_sQ, gL_sD, gL_sN, gL_sz, gJ_sI, gJ_sA, gJ_sL, gJ_sJ, gJ_sR, gJ_sQ, gJ_sD, gJ_sN, gJ_sz, gR_sI, gR_sA, gR_sL, gR_sJ, gR_sR, gR_sQ, gR_sD, gR_sN, gR_sz, gQ_sI, gQ_sA, gQ_sL, gQ_sJ, gQ_sR, gQ_sQ, gQ_sD, gQ_sN, gQ_sz, gD_sI, gD_sA, gD_sL, gD_sJ, gD_sR, gD_sQ, gD_sD, gD_sN, gD_sz, sz_sI, sz_sA, sz_sL, sz_sJ, sz_sR, sz_sQ, sz_sD, sz_sN, sz_sz, reduceIte, Nat.reduceEqDiff]; rw [if_neg (by omega)]
theorem CB.pop {s : St} {pl : List PR} {x : PR} {c : List Nat} (H : CB s (x :: pl) c) : CB (sI s 1668 (io pl.length)) pl c := ⟨rfl, H.2.1.2, H.2.2.1.2, H.2.2.2⟩
theorem put_eq {F x : Nat} {s : St} {pl : List PR} {c : List Nat} (H : CB s pl c) (hc : c.length ≤ 79) : ∃ s', f_Coder_put F s (io x) = some s' ∧ FC s s' ∧ CB s' pl (c ++ [x]) ∧ gI s' 1669 = gI s 1669 := by
  obtain ⟨h1, h2, h3, h4, h5⟩ := H
  refine ⟨sI (sA s 27 c.length (io x)) 1665 (io (c.length + 1)), ?_, (FC.rf.A (by decide)).I (by decide), ⟨h1, h2, h3, by rw [List.length_append]; rfl, fun i hi => ?_⟩, rfl⟩
  · have c1 : ¬ 79 < c.length := by omega
    have c0 : ¬ c.length < 0 := by omega
    simp (disch := omega) only [f_Coder_put, Option.bind_some, Nat.reduceEqDiff, Nat.add_zero, Nat.zero_add, Nat.reduceLT, Nat.reduceLeDiff, Nat.reduceAdd, Nat.reduceSub, Nat.reduceMul, Nat.reduceDiv, Nat.lt_irrefl, Nat.not_lt_zero, Nat.zero_le, Nat.one_ne_zero, Nat.succ_ne_zero,  lt_def, i32_lit, reduceIte, P_isIn_eq, M_isIn_eq, M_goes_eq, or_false, false_or, or_true, true_or, and_true, true_and, and_false, false_and, not_true, not_false_eq_true, eq_self, if_true, if_false, not_or, not_and, Nat.not_lt, Nat.not_le, h4, io_lt, c0, io_sub, c1, io_eq, ix_io, gI_sA, io_add]
  · rw [List.length_append] at hi
    have hi' : i < c.length + 1 := hi
    simp only [gI_sI, gI_sA, gI_sL, gI_sJ, gI_sR, gI_sQ, gI_sD, gI_sN, gI_sz, gA_sI, gA_sA, gA_sL, gA_sJ, gA_sR, gA_sQ, gA_sD, gA_sN, gA_sz, gL_sI, gL_sA, gL_sL, gL_sJ, gL_sR, gL_sQ, gL_sD, gL_sN, gL_sz, gJ_sI, gJ_sA, gJ_sL, gJ_sJ, gJ_sR, gJ_sQ, gJ_sD, gJ_sN, gJ_sz, gR_sI, gR_sA, gR_sL, gR_sJ, gR_sR, gR_sQ, gR_sD, gR_sN, gR_sz, gQ_sI, gQ_sA, gQ_sL, gQ_sJ, gQ_sR, gQ_sQ, gQ_sD, gQ_sN, gQ_sz, gD_sI, gD_sA, gD_sL, gD_sJ, gD_sR, gD_sQ, gD_sD, gD_sN, gD_sz, sz_sI, sz_sA, sz_sL, sz_sJ, sz_sR, sz_sQ, sz_sD, sz_sN, sz_sz, reduceIte]
    by_cases he : i = c.length
    · subst he
      rw [if_pos rfl, List.getElem_append_right (Nat.le_refl _)]
      simp
    · rw [if_neg he, List.getElem_append_left (by omega)]
      exact h5 i (by omega)
def flP (r : Nat) : List PR → List Nat → List PR × List Nat
  | [], c => ([], c)
  | x :: w, c => if rkP x.1 < r then (x :: w, c) else flP r w (c ++ [x.1])
def ltp (w : List PR) : Prop := ∀ x ∈ w, x.1 < 1000
theorem settle_eq {F r : Nat} (hr : r < 10) : ∀ (w : List PR) (m : Nat) (s : St) (c : List Nat), CB s w c → ltp w → w.length < m → w.length ≤ 40 → c.length + w.length ≤ 80 → ∃ s', f_Coder_settle_b0 F m s (io r) = some s' ∧ FC s s' ∧ CB s' (flP r w c).1 (flP r w c).2 ∧ gI s' 1669 = gI s 1669 := by
  intro w
  induction w with
  | nil =>
    intro m s c H hl hm h40 hc
    obtain ⟨m, rfl⟩ : ∃ m', m = m' + 1 := ⟨m - 1, by omega⟩
    have e5 := H.1
    rw [List.length_nil] at e5
    refine ⟨s, ?_, FC.rf, H, rfl⟩
    have h01 : 0 < 1 := by omega
    simp (disch := omega) only [f_Coder_settle_b0, Option.bind_some, Nat.reduceEqDiff, Nat.add_zero, Nat.zero_add, Nat.reduceLT, Nat.reduceLeDiff, Nat.reduceAdd, Nat.reduceSub, Nat.reduceMul, Nat.reduceDiv, Nat.lt_irrefl, Nat.not_lt_zero, Nat.zero_le, Nat.one_ne_zero, Nat.succ_ne_zero,  lt_def, i32_lit, reduceIte, P_isIn_eq, M_isIn_eq, M_goes_eq, or_false, false_or, or_true, true_or, and_true, true_and, and_false, false_and, not_true, not_false_eq_true, eq_self, if_true, if_false, not_or, not_and, Nat.not_lt, Nat.not_le, e5, io_lt, h01, io_eq]
  | cons x w ih =>
    intro m s c H hl hm h40 hc
    obtain ⟨m, rfl⟩ : ∃ m', m = m' + 1 := ⟨m - 1, by omega⟩
    have hc' : c.length + (w.length + 1) ≤ 80 := hc
    have h40' : w.length + 1 ≤ 40 := h40
    have hm' : w.length + 1 < m + 1 := hm
    have e5 := H.1
    have e7 := H.2.1.1
    rw [List.length_cons] at e5
    rw [List.length_map] at e7
    have hx : x.1 < 1000 := hl x List.mem_cons_self
    have n1 : ¬ w.length + 1 < 1 := by omega
    have n2 : ¬ 40 < w.length + 1 := by omega
    have hrk := rkP_le x.1
    have hra := rankP_eq (F := F) (s := s) hx
    unfold flP
    by_cases h2 : rkP x.1 < r
    · refine ⟨s, ?_, FC.rf, by rw [if_pos h2]; exact H, rfl⟩
      simp (disch := omega) only [f_Coder_settle_b0, Option.bind_some, Nat.reduceEqDiff, Nat.add_zero, Nat.zero_add, Nat.reduceLT, Nat.reduceLeDiff, Nat.reduceAdd, Nat.reduceSub, Nat.reduceMul, Nat.reduceDiv, Nat.lt_irrefl, Nat.not_lt_zero, Nat.zero_le, Nat.one_ne_zero, Nat.succ_ne_zero,  lt_def, i32_lit, reduceIte, P_isIn_eq, M_isIn_eq, M_goes_eq, or_false, false_or, or_true, true_or, and_true, true_and, and_false, false_and, not_true, not_false_eq_true, eq_self, if_true, if_false, not_or, not_and, Nat.not_lt, Nat.not_le, e5, io_lt, n1, n2, io_eq, io_sub, Nat.add_sub_cancel, ix_io, e7, hra, h2]
    · obtain ⟨s1, a1, a2, a3, a4⟩ := put_eq (F := F) (x := x.1) H.pop (by omega)
      obtain ⟨s', b1, b2, b3, b4⟩ := ih m s1 _ a3 (fun y hy => hl y (List.mem_cons_of_mem _ hy)) (by omega) (by omega) (by rw [List.length_append]; show c.length + 1 + w.length ≤ 80; omega)
      refine ⟨s', ?_, ((FC.rf.I (by decide)).trans a2).trans b2, by rw [if_neg h2]; exact b3, by rw [b4, a4]; rfl⟩
      simp (disch := omega) only [f_Coder_settle_b0, Option.bind_some, Nat.reduceEqDiff, Nat.add_zero, Nat.zero_add, Nat.reduceLT, Nat.reduceLeDiff, Nat.reduceAdd, Nat.reduceSub, Nat.reduceMul, Nat.reduceDiv, Nat.lt_irrefl, Nat.not_lt_zero, Nat.zero_le, Nat.one_ne_zero, Nat.succ_ne_zero,  lt_def, i32_lit, reduceIte, P_isIn_eq, M_isIn_eq, M_goes_eq, or_false, false_or, or_true, true_or, and_true, true_and, and_false, false_and, not_true, not_false_eq_true, eq_self, if_true, if_false, not_or, not_and, Nat.not_lt, Nat.not_le, e5, io_lt, n1, n2, io_eq, io_sub, Nat.add_sub_cancel, ix_io, e7, hra, h2, gA_sI, gI_sI, a1]
      exact b1
theorem flP_all {r : Nat} : ∀ (pd w : List PR) (c : List Nat), (∀ x ∈ pd, r ≤ rkP x.1) → (∀ x w', w = x :: w' → rkP x.1 < r) → flP r (pd ++ w) c = (w, c ++ pd.map Prod.fst) := by
  intro pd
  induction pd with
  | nil =>
    intro w c _ hw
    rw [List.nil_append, List.map_nil, List.append_nil]
    cases w with
    | nil => rfl
    | cons x w => unfold flP; rw [if_pos (hw x w rfl)]
  | cons x pd ih =>
    intro w c hp hw
    show flP r (x :: (pd ++ w)) c = _
    unfold flP
    have := hp x List.mem_cons_self
    rw [if_neg (by omega), ih w _ (fun y hy => hp y (List.mem_cons_of_mem _ hy)) hw, List.append_assoc]
    rfl
/-! how the class writes choices and questions -/
def chr1 (x : CT) : List Nat := if cmc x.1 = true then [x.2.1, 35, x.2.2.1] ++ (if x.2.2.2 = 1 then [126] else []) ++ [x.1] else [x.1]
def chrow (c : List CT) : List Nat := c.flatMap chr1
def chO (ch : Option (List CT)) : List Nat := match ch with
  | none => []
  | some c => chrow c
def qr1 (x : QT) : List Nat := if x.1 = 35 then [35, x.2.1] else if agc x.1 = true then [x.1, x.2.1, (chO x.2.2).length] ++ chO x.2.2 else [x.1]
def qrow (c : List QT) : List Nat := c.flatMap qr1
theorem chrow_app {a b : List CT} : chrow (a ++ b) = chrow a ++ chrow b := List.flatMap_append
theorem qrow_app {a b : List QT} : qrow (a ++ b) = qrow a ++ qrow b := List.flatMap_append
theorem chrow_one {x : CT} : chrow [x] = chr1 x := List.flatMap_singleton ..
theorem qrow_one {x : QT} : qrow [x] = qr1 x := List.flatMap_singleton ..
/-! the loop over the text -/
abbrev TP (F n m : Nat) (s : St) (i u : Nat) : Option St := f_Coder_turn_b20 F m s (io n) (io i) (io u)
theorem TP_step {F n m i i' u : Nat} {s s' : St} (hn : n ≤ 40) (hi : i < n) (hu : u ≤ i) (hm : 1 ≤ m) (h : f_Coder_turnPart F s (io i) (io n) = some (io i', s')) : TP F n m s i u = TP F n (m - 1) s' i' (u + 1) := by
  obtain ⟨m, rfl⟩ : ∃ m', m = m' + 1 := ⟨m - 1, by omega⟩
  have n1 : ¬ 40 ≤ u := by omega
  have n2 : ¬ n ≤ i := by omega
  have n3 : ¬ 40 ≤ i := by omega
  have n4 : ¬ 40 < n := by omega
  show f_Coder_turn_b20 F (m + 1) s (io n) (io i) (io u) = f_Coder_turn_b20 F (m + 1 - 1) s' (io n) (io i') (io (u + 1))
  simp (disch := omega) only [f_Coder_turn_b20, Option.bind_some, Nat.reduceEqDiff, Nat.add_zero, Nat.zero_add, Nat.reduceLT, Nat.reduceLeDiff, Nat.reduceAdd, Nat.reduceSub, Nat.reduceMul, Nat.reduceDiv, Nat.lt_irrefl, Nat.not_lt_zero, Nat.zero_le, Nat.one_ne_zero, Nat.succ_ne_zero,  lt_def, i32_lit, reduceIte, P_isIn_eq, M_isIn_eq, M_goes_eq, or_false, false_or, or_true, true_or, and_true, true_and, and_false, false_and, not_true, not_false_eq_true, eq_self, if_true, if_false, not_or, not_and, Nat.not_lt, Nat.not_le, io_le, n1, n2, n3, io_lt, n4, h, io_add, Nat.add_sub_cancel]
theorem part_pre {F n i : Nat} {t : Nat → Nat} {s : St} (T : TXT t n) (X : CX2 t n s) (hi : i < n) : f_Coder_turnPart F s (io i) (io n) = if dgt (t i) = true then (f_Coder_turnNumber F s (io i) (io n)).bind (fun x => some (x.1, x.2)) else if agc (t i) = true then (f_Coder_openAggregate F s (io i) (io n)).bind (fun x => some (x.1, x.2)) else if fdc (t i) = true then (f_Coder_put F s (io (t i))).bind (fun x => some (io (i + 1), x)) else if t i = 40 then (f_Coder_push F s (io (t i))).bind (fun x => some (io (i + 1), x)) else if t i = 41 then (f_Coder_close F s).bind (fun x => some (io (i + 1), x)) else (f_Coder_turnSign F s (io (t i))).bind (fun x => some (io (i + 1), x)) := by
  have hn := T.1
  have e := X i hi
  have ht := tlt (i := i) T
  have n0 : ¬ i < 0 := by omega
  have n1 : ¬ n ≤ i := by omega
  have n2 : i < 40 := by omega
  have hd := isDigit_eq (F := F) (s := s) ht
  have ha := isAgg_eq (F := F) (s := s) ht
  have hf := isField_eq (F := F) (s := s) ht
  by_cases d : dgt (t i) = true
  · rw [if_pos d] at hd ⊢
    simp (disch := omega) only [f_Coder_turnPart, Option.bind_some, Nat.reduceEqDiff, Nat.add_zero, Nat.zero_add, Nat.reduceLT, Nat.reduceLeDiff, Nat.reduceAdd, Nat.reduceSub, Nat.reduceMul, Nat.reduceDiv, Nat.lt_irrefl, Nat.not_lt_zero, Nat.zero_le, Nat.one_ne_zero, Nat.succ_ne_zero,  lt_def, i32_lit, reduceIte, P_isIn_eq, M_isIn_eq, M_goes_eq, or_false, false_or, or_true, true_or, and_true, true_and, and_false, false_and, not_true, not_false_eq_true, eq_self, if_true, if_false, not_or, not_and, Nat.not_lt, Nat.not_le, io_lt, n0, io_le, n1, n2, ix_io, e, hd, io_eq]
  · rw [if_neg d] at hd ⊢
    by_cases a : agc (t i) = true
    · rw [if_pos a] at ha ⊢
      simp (disch := omega) only [f_Coder_turnPart, Option.bind_some, Nat.reduceEqDiff, Nat.add_zero, Nat.zero_add, Nat.reduceLT, Nat.reduceLeDiff, Nat.reduceAdd, Nat.reduceSub, Nat.reduceMul, Nat.reduceDiv, Nat.lt_irrefl, Nat.not_lt_zero, Nat.zero_le, Nat.one_ne_zero, Nat.succ_ne_zero,  lt_def, i32_lit, reduceIte, P_isIn_eq, M_isIn_eq, M_goes_eq, or_false, false_or, or_true, true_or, and_true, true_and, and_false, false_and, not_true, not_false_eq_true, eq_self, if_true, if_false, not_or, not_and, Nat.not_lt, Nat.not_le, io_lt, n0, io_le, n1, n2, ix_io, e, hd, ha, io_eq]
    · rw [if_neg a] at ha ⊢
      by_cases f : fdc (t i) = true
      · rw [if_pos f] at hf ⊢
        simp (disch := omega) only [f_Coder_turnPart, Option.bind_some, Nat.reduceEqDiff, Nat.add_zero, Nat.zero_add, Nat.reduceLT, Nat.reduceLeDiff, Nat.reduceAdd, Nat.reduceSub, Nat.reduceMul, Nat.reduceDiv, Nat.lt_irrefl, Nat.not_lt_zero, Nat.zero_le, Nat.one_ne_zero, Nat.succ_ne_zero,  lt_def, i32_lit, reduceIte, P_isIn_eq, M_isIn_eq, M_goes_eq, or_false, false_or, or_true, true_or, and_true, true_and, and_false, false_and, not_true, not_false_eq_true, eq_self, if_true, if_false, not_or, not_and, Nat.not_lt, Nat.not_le, io_lt, n0, io_le, n1, n2, ix_io, e, hd, ha, hf, io_eq, io_add]
      · rw [if_neg f] at hf ⊢
        by_cases h40 : t i = 40
        · rw [if_pos h40]
          rw [h40] at hd ha hf
          simp (disch := omega) only [f_Coder_turnPart, Option.bind_some, Nat.reduceEqDiff, Nat.add_zero, Nat.zero_add, Nat.reduceLT, Nat.reduceLeDiff, Nat.reduceAdd, Nat.reduceSub, Nat.reduceMul, Nat.reduceDiv, Nat.lt_irrefl, Nat.not_lt_zero, Nat.zero_le, Nat.one_ne_zero, Nat.succ_ne_zero,  lt_def, i32_lit, reduceIte, P_isIn_eq, M_isIn_eq, M_goes_eq, or_false, false_or, or_true, true_or, and_true, true_and, and_false, false_and, not_true, not_false_eq_true, eq_self, if_true, if_false, not_or, not_and, Nat.not_lt, Nat.not_le, io_lt, n0, io_le, n1, n2, ix_io, e, hd, ha, hf, io_eq, io_add, h40]
        · rw [if_neg h40]
          by_cases h41 : t i = 41
          · rw [if_pos h41]
            rw [h41] at hd ha hf
            simp (disch := omega) only [f_Coder_turnPart, Option.bind_some, Nat.reduceEqDiff, Nat.add_zero, Nat.zero_add, Nat.reduceLT, Nat.reduceLeDiff, Nat.reduceAdd, Nat.reduceSub, Nat.reduceMul, Nat.reduceDiv, Nat.lt_irrefl, Nat.not_lt_zero, Nat.zero_le, Nat.one_ne_zero, Nat.succ_ne_zero,  lt_def, i32_lit, reduceIte, P_isIn_eq, M_isIn_eq, M_goes_eq, or_false, false_or, or_true, true_or, and_true, true_and, and_false, false_and, not_true, not_false_eq_true, eq_self, if_true, if_false, not_or, not_and, Nat.not_lt, Nat.not_le, io_lt, n0, io_le, n1, n2, ix_io, e, hd, ha, hf, io_eq, io_add, h40, h41]
          · rw [if_neg h41]
            simp (disch := omega) only [f_Coder_turnPart, Option.bind_some, Nat.reduceEqDiff, Nat.add_zero, Nat.zero_add, Nat.reduceLT, Nat.reduceLeDiff, Nat.reduceAdd, Nat.reduceSub, Nat.reduceMul, Nat.reduceDiv, Nat.lt_irrefl, Nat.not_lt_zero, Nat.zero_le, Nat.one_ne_zero, Nat.succ_ne_zero,  lt_def, i32_lit, reduceIte, P_isIn_eq, M_isIn_eq, M_goes_eq, or_false, false_or, or_true, true_or, and_true, true_and, and_false, false_and, not_true, not_false_eq_true, eq_self, if_true, if_false, not_or, not_and, Nat.not_lt, Nat.not_le, io_lt, n0, io_le, n1, n2, ix_io, e, hd, ha, hf, io_eq, io_add, h40, h41]
theorem numC_loop {F n : Nat} {t : Nat → Nat} (T : TXT t n) {pl : List PR} {c : List Nat} {s : St} (X : CX2 t n s) (H : CB s pl c) (hc : c.length ≤ 78) : ∀ k m v i, i ≤ n → k < m → dgt (t (nb t k v i).2) = false → ∃ s', f_Coder_turnNumber_b6 F m s (io n) (io v) (io i) = some (io (nb t k v i).2, s') ∧ FC s s' ∧ CB s' pl (c ++ [35, (nb t k v i).1]) ∧ gI s' 1669 = io 1 := by
  have hn := T.1
  have stop : ∀ m v i, i ≤ n → 1 ≤ m → dgt (t i) = false → ∃ s', f_Coder_turnNumber_b6 F m s (io n) (io v) (io i) = some (io i, s') ∧ FC s s' ∧ CB s' pl (c ++ [35, v]) ∧ gI s' 1669 = io 1 := by
    intro m v i hi hm hd
    obtain ⟨m, rfl⟩ : ∃ m', m = m' + 1 := ⟨m - 1, by omega⟩
    obtain ⟨s1, a1, a2, a3, a4⟩ := put_eq (F := F) (x := 35) H (by omega)
    obtain ⟨s2, b1, b2, b3, b4⟩ := put_eq (F := F) (x := v) a3 (by rw [List.length_append]; show c.length + 1 ≤ 79; omega)
    rw [List.append_assoc] at b3
    refine ⟨sI s2 1669 (io 1), ?_, (a2.trans b2).I (by decide), b3.I9, rfl⟩
    have n0 : ¬ i < 0 := by omega
    by_cases hin : n ≤ i
    · simp (disch := omega) only [f_Coder_turnNumber_b6, Option.bind_some, Nat.reduceEqDiff, Nat.add_zero, Nat.zero_add, Nat.reduceLT, Nat.reduceLeDiff, Nat.reduceAdd, Nat.reduceSub, Nat.reduceMul, Nat.reduceDiv, Nat.lt_irrefl, Nat.not_lt_zero, Nat.zero_le, Nat.one_ne_zero, Nat.succ_ne_zero,  lt_def, i32_lit, reduceIte, P_isIn_eq, M_isIn_eq, M_goes_eq, or_false, false_or, or_true, true_or, and_true, true_and, and_false, false_and, not_true, not_false_eq_true, eq_self, if_true, if_false, not_or, not_and, Nat.not_lt, Nat.not_le, io_lt, n0, io_le, hin, a1, b1]
    · have n3 : ¬ 40 ≤ i := by omega
      have e := X i (by omega)
      have hdd := isDigit_eq (F := F) (s := s) (tlt (i := i) T)
      rw [if_neg (by rw [hd]; decide)] at hdd
      simp (disch := omega) only [f_Coder_turnNumber_b6, Option.bind_some, Nat.reduceEqDiff, Nat.add_zero, Nat.zero_add, Nat.reduceLT, Nat.reduceLeDiff, Nat.reduceAdd, Nat.reduceSub, Nat.reduceMul, Nat.reduceDiv, Nat.lt_irrefl, Nat.not_lt_zero, Nat.zero_le, Nat.one_ne_zero, Nat.succ_ne_zero,  lt_def, i32_lit, reduceIte, P_isIn_eq, M_isIn_eq, M_goes_eq, or_false, false_or, or_true, true_or, and_true, true_and, and_false, false_and, not_true, not_false_eq_true, eq_self, if_true, if_false, not_or, not_and, Nat.not_lt, Nat.not_le, io_lt, n0, io_le, hin, n3, ix_io, e, hdd, a1, b1]
  intro k
  induction k with
  | zero => intro m v i hi hm hd; exact stop m v i hi (by omega) hd
  | succ k ih =>
    intro m v i hi hm hd
    by_cases h : dgt (t i) = true
    · obtain ⟨m, rfl⟩ : ∃ m', m = m' + 1 := ⟨m - 1, by omega⟩
      unfold nb at hd ⊢
      rw [if_pos h] at hd ⊢
      have i1 := T.bin h
      have h48 : 48 ≤ t i := by unfold dgt at h; exact (of_decide_eq_true h).1
      obtain ⟨s', a1, a2⟩ := ih m (10 * v + (t i - 48)) (i + 1) i1 (by omega) hd
      refine ⟨s', ?_, a2⟩
      have n0 : ¬ i < 0 := by omega
      have hin : ¬ n ≤ i := by omega
      have n3 : ¬ 40 ≤ i := by omega
      have e := X i (by omega)
      have hdd := isDigit_eq (F := F) (s := s) (tlt (i := i) T)
      rw [if_pos h] at hdd
      simp (disch := omega) only [f_Coder_turnNumber_b6, Option.bind_some, Nat.reduceEqDiff, Nat.add_zero, Nat.zero_add, Nat.reduceLT, Nat.reduceLeDiff, Nat.reduceAdd, Nat.reduceSub, Nat.reduceMul, Nat.reduceDiv, Nat.lt_irrefl, Nat.not_lt_zero, Nat.zero_le, Nat.one_ne_zero, Nat.succ_ne_zero,  lt_def, i32_lit, reduceIte, P_isIn_eq, M_isIn_eq, M_goes_eq, or_false, false_or, or_true, true_or, and_true, true_and, and_false, false_and, not_true, not_false_eq_true, eq_self, if_true, if_false, not_or, not_and, Nat.not_lt, Nat.not_le, io_lt, n0, io_le, hin, n3, ix_io, e, hdd, io_eq, io_sub, io_mul, io_add]
      exact a1
    · unfold nb at hd ⊢
      rw [if_neg h] at hd ⊢
      exact stop m v i hi (by omega) hd
theorem numC {F n i : Nat} {t : Nat → Nat} (hF : 5000 ≤ F) (T : TXT t n) {pl : List PR} {c : List Nat} {s : St} (X : CX2 t n s) (H : CB s pl c) (hc : c.length ≤ 78) {v : Nat} (hi : i ≤ n) (hv : (pNum t i).1 = some v) (hd : dgt (t (pNum t i).2) = false) : i < n ∧ ∃ s', f_Coder_turnPart F s (io i) (io n) = some (io (pNum t i).2, s') ∧ FC s s' ∧ CB s' pl (c ++ [35, v]) ∧ gI s' 1669 = io 1 := by
  unfold pNum at hv hd ⊢
  by_cases h : dgt (t i) = true
  · rw [if_pos h] at hv hd ⊢
    cases hv
    have i1 := T.bin h
    obtain ⟨s', a1, a2⟩ := numC_loop (F := F) T X H hc 4 F 0 i hi (by omega) hd
    refine ⟨i1, s', ?_, a2⟩
    rw [part_pre T X i1, if_pos h]
    have a1' : f_Coder_turnNumber F s (io i) (io n) = some (io (nb t 4 0 i).2, s') := a1
    rw [a1']; rfl
  · rw [if_neg h] at hv; cases hv
/-- a sign between two parts -/
theorem signC {F n i x r : Nat} {t : Nat → Nat} (hF : 5000 ≤ F) (T : TXT t n) {pl pl' pd : List PR} {c c' e : List Nat} {s : St} (X : CX2 t n s) (H : CB s pl' c') (hi : i < n) (hx : t i = x) (hr : rkP x = r) (h1 : 1 ≤ r) (h6 : r ≤ 6) (h3 : x ≠ 33) (h45 : x = 45 → gI s 1669 = io 1) (e1 : pl' = pd ++ pl) (e2 : c' ++ pd.map Prod.fst = c ++ e) (e3 : ∀ y ∈ pd, r ≤ rkP y.1) (tp : ∀ y w, pl = y :: w → rkP y.1 < r) (hl : ltp pl') (hp : pl'.length ≤ i) (hc : c'.length + pl'.length ≤ 2 * i) :
    ∃ s', f_Coder_turnPart F s (io i) (io n) = some (io (i + 1), s') ∧ FC s s' ∧ CB s' ((x, (c ++ e).length) :: pl) (c ++ e) ∧ gI s' 1669 = io 0 := by
  have hn := T.1
  have ht := tlt (i := i) T
  have hrk : rkP (t i) = r := by rw [hx]; exact hr
  have nx : x ≠ 126 := fun e => by rw [e] at hr; have : rkP 126 = 7 := rfl; omega
  have nd : ¬ dgt (t i) = true := fun h => by
    unfold dgt at h; have := of_decide_eq_true h
    rw [hx] at this; rw [← hr] at h1; unfold rkP at h1
    revert h1; repeat (first | omega | split)
  have na : ¬ agc (t i) = true := fun h => by
    unfold agc at h; have := of_decide_eq_true h
    rw [hx] at this; rw [← hr] at h1; unfold rkP at h1
    revert h1; repeat (first | omega | split)
  have nf : ¬ fdc (t i) = true := fun h => by
    unfold fdc at h; have := of_decide_eq_true h
    rw [hx] at this; rw [← hr] at h1; unfold rkP at h1
    revert h1; repeat (first | omega | split)
  have n40 : ¬ t i = 40 := fun h => by rw [h] at hrk; have : rkP 40 = 0 := rfl; omega
  have n41 : ¬ t i = 41 := fun h => by rw [h] at hrk; have : rkP 41 = 0 := rfl; omega
  obtain ⟨s1, b1, b2, b3, b4⟩ := settle_eq (F := F) (r := r) (by omega) pl' F s c' H hl (by omega) (by omega) (by omega)
  rw [e1, flP_all pd pl c' e3 tp, e2] at b3
  have b1' : f_Coder_settle F s (io r) = some s1 := b1
  have hpl : pl.length ≤ 39 := by
    have := congrArg List.length e1
    rw [List.length_append] at this; omega
  obtain ⟨s2, d1, d2, d3, d4⟩ := push_eq (F := F) (x := x) b3 hpl
  refine ⟨sI s2 1669 (io 0), ?_, (b2.trans d2).I (by decide), d3.I9, rfl⟩
  rw [part_pre T X hi, if_neg nd, if_neg na, if_neg nf, if_neg n40, if_neg n41, hx]
  have hra := rankP_eq (F := F) (s := s) (show x < 1000 by omega)
  rw [hr] at hra
  have eb : f_Coder_turnSign_b19 F s (io x) = some (sI s2 1669 (io 0)) := by
    simp (disch := omega) only [f_Coder_turnSign_b19, Option.bind_some, Nat.reduceEqDiff, Nat.add_zero, Nat.zero_add, Nat.reduceLT, Nat.reduceLeDiff, Nat.reduceAdd, Nat.reduceSub, Nat.reduceMul, Nat.reduceDiv, Nat.lt_irrefl, Nat.not_lt_zero, Nat.zero_le, Nat.one_ne_zero, Nat.succ_ne_zero,  lt_def, i32_lit, reduceIte, P_isIn_eq, M_isIn_eq, M_goes_eq, or_false, false_or, or_true, true_or, and_true, true_and, and_false, false_and, not_true, not_false_eq_true, eq_self, if_true, if_false, not_or, not_and, Nat.not_lt, Nat.not_le, io_eq, nx, h3, hra, b1', d1]
  by_cases e45 : x = 45
  · have e69 := h45 e45
    subst e45
    simp (disch := omega) only [f_Coder_turnSign, Option.bind_some, Nat.reduceEqDiff, Nat.add_zero, Nat.zero_add, Nat.reduceLT, Nat.reduceLeDiff, Nat.reduceAdd, Nat.reduceSub, Nat.reduceMul, Nat.reduceDiv, Nat.lt_irrefl, Nat.not_lt_zero, Nat.zero_le, Nat.one_ne_zero, Nat.succ_ne_zero,  lt_def, i32_lit, reduceIte, P_isIn_eq, M_isIn_eq, M_goes_eq, or_false, false_or, or_true, true_or, and_true, true_and, and_false, false_and, not_true, not_false_eq_true, eq_self, if_true, if_false, not_or, not_and, Nat.not_lt, Nat.not_le, io_eq, e69, eb]
  · simp (disch := omega) only [f_Coder_turnSign, Option.bind_some, Nat.reduceEqDiff, Nat.add_zero, Nat.zero_add, Nat.reduceLT, Nat.reduceLeDiff, Nat.reduceAdd, Nat.reduceSub, Nat.reduceMul, Nat.reduceDiv, Nat.lt_irrefl, Nat.not_lt_zero, Nat.zero_le, Nat.one_ne_zero, Nat.succ_ne_zero,  lt_def, i32_lit, reduceIte, P_isIn_eq, M_isIn_eq, M_goes_eq, or_false, false_or, or_true, true_or, and_true, true_and, and_false, false_and, not_true, not_false_eq_true, eq_self, if_true, if_false, not_or, not_and, Nat.not_lt, Nat.not_le, io_eq, e45, eb]
/-- a bracket ends, which is none of an aggregate -/
theorem closeP {F n i z : Nat} {t : Nat → Nat} (hF : 5000 ≤ F) (T : TXT t n) {pl pl' pd : List PR} {c c' e : List Nat} {s : St} (X : CX2 t n s) (H : CB s pl' c') (hi : i < n) (hx : t i = 41) (e1 : pl' = pd ++ (40, z) :: pl) (e2 : c' ++ pd.map Prod.fst = c ++ e) (e3 : ∀ y ∈ pd, 1 ≤ rkP y.1) (hl : ltp pl') (hp : pl'.length ≤ i) (hc : c'.length + pl'.length ≤ 2 * i) :
    ∃ s', f_Coder_turnPart F s (io i) (io n) = some (io (i + 1), s') ∧ FC s s' ∧ CB s' pl (c ++ e) ∧ gI s' 1669 = io 1 := by
  have hn := T.1
  obtain ⟨s1, b1, b2, b3, b4⟩ := settle_eq (F := F) (r := 1) (by omega) pl' F s c' H hl (by omega) (by omega) (by omega)
  rw [e1, flP_all pd _ c' e3 (fun y w h => by cases h; show rkP 40 < 1; decide), e2] at b3
  have b1' : f_Coder_settle F s (io 1) = some s1 := b1
  have hpl : pl.length ≤ 38 := by
    have := congrArg List.length e1
    rw [List.length_append] at this
    have h2 : pl'.length = pd.length + (pl.length + 1) := this
    omega
  have g8 : gI s1 1668 = io (pl.length + 1) := b3.1
  have g28 : gA s1 28 pl.length = io 40 := by have := b3.2.1.1; rw [List.length_map] at this; exact this
  refine ⟨sI (sI s1 1669 (io 1)) 1668 (io pl.length), ?_, (b2.I (by decide)).I (by decide), CB.pop b3.I9, rfl⟩
  rw [part_pre T X hi, if_neg (by rw [hx]; decide), if_neg (by rw [hx]; decide), if_neg (by rw [hx]; decide), if_neg (by rw [hx]; decide), if_pos hx]
  have n1 : ¬ pl.length + 1 < 1 := by omega
  have n2 : ¬ 40 < pl.length + 1 := by omega
  have hag := isAgg_eq (F := F) (s := sI (sI s1 1669 (io 1)) 1668 (io pl.length)) (show 40 < 1000 by omega)
  rw [if_neg (by decide)] at hag
  simp (disch := omega) only [f_Coder_close, Option.bind_some, Nat.reduceEqDiff, Nat.add_zero, Nat.zero_add, Nat.reduceLT, Nat.reduceLeDiff, Nat.reduceAdd, Nat.reduceSub, Nat.reduceMul, Nat.reduceDiv, Nat.lt_irrefl, Nat.not_lt_zero, Nat.zero_le, Nat.one_ne_zero, Nat.succ_ne_zero,  lt_def, i32_lit, reduceIte, P_isIn_eq, M_isIn_eq, M_goes_eq, or_false, false_or, or_true, true_or, and_true, true_and, and_false, false_and, not_true, not_false_eq_true, eq_self, if_true, if_false, not_or, not_and, Nat.not_lt, Nat.not_le, b1', gI_sI, g8, io_lt, n1, n2, io_eq, io_sub, Nat.add_sub_cancel, ix_io, gA_sI, g28, hag]
