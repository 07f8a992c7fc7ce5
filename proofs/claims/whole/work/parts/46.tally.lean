/-! what an aggregate makes of values -/
def vok (v : Int32) : Prop := -1000 ≤ v.toInt ∧ v.toInt ≤ 1000
def tv (v : Int32) : Nat := (v.toInt + 1000).toNat
theorem tv_le {v : Int32} (h : vok v) : tv v ≤ 2000 := by unfold tv vok at *; omega
theorem tv_io {v : Int32} (h : vok v) : v + io 1000 = io (tv v) := by
  have h1 := tv_le h
  rw [← Int32.toInt_inj, io_toInt (by omega), i32_add (by rw [io_toInt (by omega)]; unfold vok at h; omega) (by rw [io_toInt (by omega)]; unfold vok at h; omega), io_toInt (by omega)]
  unfold tv vok at *
  omega
theorem tv_inj {v w : Int32} (h : vok v) (h2 : vok w) (e : tv v = tv w) : v = w := by
  rw [← Int32.toInt_inj]
  unfold tv vok at *
  omega
theorem vok_io {n : Nat} (h : n ≤ 1000) : vok (io n) := by unfold vok; rw [io_toInt (by omega)]; omega
def vct (vs : List Int32) (x : Nat) : Nat := vs.countP (fun v => decide (tv v = x))
theorem vct_snoc (vs : List Int32) (v : Int32) (x : Nat) : vct (vs ++ [v]) x = vct vs x + if tv v = x then 1 else 0 := by
  unfold vct
  rw [List.countP_append, List.countP_singleton]
  by_cases h : tv v = x
  · rw [if_pos h, if_pos (decide_eq_true h)]
  · rw [if_neg h, if_neg (by simpa using h)]
theorem vct_le (vs : List Int32) (x : Nat) : vct vs x ≤ vs.length := List.countP_le_length
def vsum (vs : List Int32) : Int64 := vs.foldl (fun a v => a + v.toInt64) 0
theorem vsum_snoc (vs : List Int32) (v : Int32) : vsum (vs ++ [v]) = vsum vs + v.toInt64 := by unfold vsum; rw [List.foldl_append]; rfl
def vlo : List Int32 → Int32 := fun vs => vs.foldl (fun (a : Nat × Int32) v => (a.1 + 1, if a.1 = 0 then v else if v < a.2 then v else a.2)) (0, io 0) |>.2
def vhi : List Int32 → Int32 := fun vs => vs.foldl (fun (a : Nat × Int32) v => (a.1 + 1, if a.1 = 0 then v else if a.2 < v then v else a.2)) (0, io 0) |>.2
theorem foldl_cnt {β : Type} (f : Nat → β → Int32 → β) (vs : List Int32) : ∀ (n : Nat) (b : β), (vs.foldl (fun (a : Nat × β) v => (a.1 + 1, f a.1 a.2 v)) (n, b)).1 = n + vs.length := by
  induction vs with
  | nil => intro n b; rfl
  | cons v vs ih => intro n b; rw [List.foldl_cons, ih, List.length_cons]; omega
theorem vlo_snoc (vs : List Int32) (v : Int32) : vlo (vs ++ [v]) = if vs.length = 0 then v else if v < vlo vs then v else vlo vs := by
  unfold vlo
  rw [List.foldl_append, List.foldl_cons, List.foldl_nil]
  dsimp only
  rw [foldl_cnt (fun n b v => if n = 0 then v else if v < b then v else b) vs 0 (io 0), Nat.zero_add]
theorem vhi_snoc (vs : List Int32) (v : Int32) : vhi (vs ++ [v]) = if vs.length = 0 then v else if vhi vs < v then v else vhi vs := by
  unfold vhi
  rw [List.foldl_append, List.foldl_cons, List.foldl_nil]
  dsimp only
  rw [foldl_cnt (fun n b v => if n = 0 then v else if b < v then v else b) vs 0 (io 0), Nat.zero_add]
def vdst (vs : List Int32) : Nat := cnt (fun i => decide (vct (vs.take i) (tv (vs.getD i 0)) = 0)) vs.length
theorem vdst_snoc (vs : List Int32) (v : Int32) : vdst (vs ++ [v]) = vdst vs + if vct vs (tv v) = 0 then 1 else 0 := by
  unfold vdst
  rw [List.length_append]
  show cnt _ vs.length + (if decide (vct ((vs ++ [v]).take vs.length) (tv ((vs ++ [v]).getD vs.length 0)) = 0) then 1 else 0) = _
  have e1 : (vs ++ [v]).take vs.length = vs := by rw [List.take_append_of_le_length (Nat.le_refl _), List.take_length]
  have e2 : (vs ++ [v]).getD vs.length 0 = v := by rw [List.getD_eq_getElem?_getD, List.getElem?_append_right (Nat.le_refl _)]; simp
  rw [e1, e2]
  congr 1
  · refine cnt_ext (fun i hi => ?_)
    rw [List.take_append_of_le_length (by omega), List.getD_eq_getElem?_getD, List.getD_eq_getElem?_getD, List.getElem?_append_left hi]
  · by_cases h : vct vs (tv v) = 0
    · rw [if_pos h, if_pos (decide_eq_true h)]
    · rw [if_neg h, if_neg (by simpa using h)]
theorem vdst_le (vs : List Int32) : vdst vs ≤ vs.length := cnt_le _ _
/-- the most often one, the first of them -/
def vmo (vs : List Int32) : Nat → Nat × Int64
  | 0 => (0, 0)
  | i + 1 => if (vmo vs i).1 < vct vs (tv (vs.getD i 0)) then (vct vs (tv (vs.getD i 0)), (vs.getD i 0).toInt64) else vmo vs i
def vag (k : Nat) (vs : List Int32) : Int64 := if k = 100 then (io (vdst vs)).toInt64 else if k = 109 then (vlo vs).toInt64 else if k = 110 then (io vs.length).toInt64 else if k = 115 then vsum vs else if k = 116 then (vmo vs vs.length).2 else if k = 120 then (vhi vs).toInt64 else 0
/-! the tally w -/
def TLw (s : St) (vs : List Int32) : Prop := vs.length ≤ 100 ∧ gI s 1985 = io vs.length ∧ (∀ i (h : i < vs.length), gA s 32 i = vs[i]) ∧ (∀ v ∈ vs, vok v) ∧ ∀ x, x < 2001 → gA s 33 x = io (vct vs x)
def TSw (s : St) (vs : List Int32) : Prop := TLw s vs ∧ gL s 1986 = vsum vs ∧ gI s 1987 = vlo vs ∧ gI s 1988 = vhi vs ∧ gI s 1989 = io (vdst vs)
theorem clear_loopw {F : Nat} {s0 : St} {vs : List Int32} (T : TLw s0 vs) : ∀ (k n i : Nat) (s : St), i + k = vs.length → k < n → Fr [] [33] s0 s → (∀ x, x < 2001 → gA s 33 x = if vct (vs.take i) x = 0 then gA s0 33 x else io 0) →
    ∃ s', f_Tally_clearw_b2 F n s (io i) = f_Tally_clearw_b56 F s' ∧ Fr [] [33] s0 s' ∧ (∀ x, x < 2001 → gA s' 33 x = if vct vs x = 0 then gA s0 33 x else io 0) ∧ gJ s' = gJ s := by
  obtain ⟨t1, t2, t3, t4, t5⟩ := T
  intro k
  induction k with
  | zero =>
    intro n i s hi hn f hx
    obtain ⟨n, rfl⟩ : ∃ n', n = n' + 1 := ⟨n - 1, by omega⟩
    have hi' : i = vs.length := by omega
    subst hi'
    have ec : gI s 1985 = io vs.length := by rw [f.gi 1985 (by decide)]; exact t2
    rw [List.take_length] at hx
    refine ⟨s, ?_, f, hx, rfl⟩
    simp (disch := omega) only [f_Tally_clearw_b2, Option.bind_some, Nat.reduceEqDiff, Nat.add_zero, Nat.zero_add, Nat.reduceLT, Nat.reduceLeDiff, Nat.reduceAdd, Nat.reduceSub, Nat.reduceMul, Nat.reduceDiv, Nat.lt_irrefl, Nat.not_lt_zero, Nat.zero_le, Nat.one_ne_zero, Nat.succ_ne_zero,  lt_def, i32_lit, reduceIte, P_isIn_eq, M_isIn_eq, M_goes_eq, or_false, false_or, or_true, true_or, and_true, true_and, and_false, false_and, not_true, not_false_eq_true, eq_self, if_true, if_false, not_or, not_and, Nat.not_lt, Nat.not_le, ec, io_le, Nat.le_refl]
  | succ k ih =>
    intro n i s hi hn f hx
    obtain ⟨n, rfl⟩ : ∃ n', n = n' + 1 := ⟨n - 1, by omega⟩
    have ec : gI s 1985 = io vs.length := by rw [f.gi 1985 (by decide)]; exact t2
    have hlt : i < vs.length := by omega
    have h1 : ¬ vs.length ≤ i := by omega
    have h2 : ¬ 100 ≤ i := by omega
    have es : gA s 32 i = vs[i] := by rw [f.ga 32 (by decide)]; exact t3 i hlt
    have hv := t4 vs[i] (List.getElem_mem hlt)
    have hle := tv_le hv
    have hio := tv_io hv
    have h3 : ¬ 2001 ≤ tv vs[i] := by omega
    have etk : vs.take (i + 1) = vs.take i ++ [vs[i]] := by rw [List.take_succ_eq_append_getElem hlt]
    obtain ⟨s', e1, e2, e3, e4⟩ := ih n (i + 1) (sA s 33 (tv vs[i]) (io 0)) (by omega) (by omega) (f.A (by decide)) (fun x hx2 => by
      rw [gA_sA, if_pos rfl, etk, vct_snoc]
      by_cases hxt : x = tv vs[i]
      · rw [if_pos hxt, if_pos hxt.symm, if_neg (by omega)]
      · rw [if_neg hxt, if_neg (fun e : tv vs[i] = x => hxt e.symm), Nat.add_zero]
        exact hx x hx2)
    refine ⟨s', ?_, e2, e3, e4⟩
    simp (disch := omega) only [f_Tally_clearw_b2, Option.bind_some, Nat.reduceEqDiff, Nat.add_zero, Nat.zero_add, Nat.reduceLT, Nat.reduceLeDiff, Nat.reduceAdd, Nat.reduceSub, Nat.reduceMul, Nat.reduceDiv, Nat.lt_irrefl, Nat.not_lt_zero, Nat.zero_le, Nat.one_ne_zero, Nat.succ_ne_zero,  lt_def, i32_lit, reduceIte, P_isIn_eq, M_isIn_eq, M_goes_eq, or_false, false_or, or_true, true_or, and_true, true_and, and_false, false_and, not_true, not_false_eq_true, eq_self, if_true, if_false, not_or, not_and, Nat.not_lt, Nat.not_le, ec, io_le, h1, h2, ix_io, es, hio, io_lt, h3, io_add]
    exact e1
theorem clear_eqw {F : Nat} (hF : 5000 ≤ F) {s : St} {vs : List Int32} (T : TLw s vs) : ∃ s', f_Tally_clearw F s = some s' ∧ TSw s' [] ∧ Fr [1985, 1987, 1988, 1989] [33] s s' ∧ gJ s' = gJ s := by
  have hl := T.1
  obtain ⟨s', e1, e2, e3, e4⟩ := clear_loopw (F := F) T vs.length F 0 s (by omega) (by omega) Fr.rf (fun x hx => by rw [List.take_zero]; exact (if_pos rfl).symm)
  refine ⟨sI (sI (sI (sL (sI s' 1985 (io 0)) 1986 0) 1987 (io 0)) 1988 (io 0)) 1989 (io 0), ?_, ⟨⟨Nat.zero_le _, rfl, fun i h => absurd h (Nat.not_lt_zero _), (fun v hv => (List.not_mem_nil hv).elim), fun x hx => ?_⟩, rfl, rfl, rfl, rfl⟩, ((((e2.wide (by decide) (by decide)).I (by decide)).L.I (by decide)).I (by decide)).I (by decide), e4⟩
  · simp (disch := omega) only [f_Tally_clearw, Option.bind_some, Nat.reduceEqDiff, Nat.add_zero, Nat.zero_add, Nat.reduceLT, Nat.reduceLeDiff, Nat.reduceAdd, Nat.reduceSub, Nat.reduceMul, Nat.reduceDiv, Nat.lt_irrefl, Nat.not_lt_zero, Nat.zero_le, Nat.one_ne_zero, Nat.succ_ne_zero,  lt_def, i32_lit, reduceIte, P_isIn_eq, M_isIn_eq, M_goes_eq, or_false, false_or, or_true, true_or, and_true, true_and, and_false, false_and, not_true, not_false_eq_true, eq_self, if_true, if_false, not_or, not_and, Nat.not_lt, Nat.not_le]
    rw [e1]
    rfl
  · show gA s' 33 x = io 0
    rw [e3 x hx]
    by_cases h : vct vs x = 0
    · rw [if_pos h, T.2.2.2.2 x hx, h]
    · rw [if_neg h]
theorem add_eqw {F : Nat} {s : St} {vs : List Int32} {v : Int32} (T : TSw s vs) (hv : vok v) (hl : vs.length < 100) : ∃ s', f_Tally_addw F s v = some s' ∧ TSw s' (vs ++ [v]) ∧ Fr [1985, 1987, 1988, 1989] [32, 33] s s' ∧ gJ s' = gJ s := by
  obtain ⟨⟨t1, t2, t3, t4, t5⟩, u1, u2, u3, u4⟩ := T
  have hle := tv_le hv
  have hio := tv_io hv
  have hct := vct_le vs (tv v)
  have hd := vdst_le vs
  have ht := t5 (tv v) (by omega)
  have n1 : ¬ 2001 ≤ tv v := by omega
  have key : ∀ s', s' = sI (sA (sA (sI (sI (sI (sL s 1986 (vsum (vs ++ [v]))) 1987 (vlo (vs ++ [v]))) 1988 (vhi (vs ++ [v]))) 1989 (io (vdst (vs ++ [v])))) 33 (tv v) (io (vct vs (tv v) + 1))) 32 vs.length v) 1985 (io (vs.length + 1)) → TSw s' (vs ++ [v]) ∧ Fr [1985, 1987, 1988, 1989] [32, 33] s s' ∧ gJ s' = gJ s := by
    intro s' he
    subst he
    refine ⟨⟨⟨by rw [List.length_append]; show vs.length + 1 ≤ 100; omega, by rw [List.length_append]; rfl, fun i hi => ?_, fun w hw => ?_, fun x hx => ?_⟩, ?_, ?_, ?_, ?_⟩, ((((((Fr.rf.L).I (by decide)).I (by decide)).I (by decide)).A (by decide)).A (by decide)).I (by decide), rfl⟩
    · rw [List.length_append] at hi
      have hi' : i < vs.length + 1 := hi
      show (if i = vs.length then v else gA s 32 i) = _
      by_cases h : i = vs.length
      · subst h
        rw [if_pos rfl, List.getElem_append_right (Nat.le_refl _)]
        simp
      · rw [if_neg h, List.getElem_append_left (by omega)]
        exact t3 i (by omega)
    · rcases List.mem_append.mp hw with h | h
      · exact t4 w h
      · rw [List.mem_singleton.mp h]; exact hv
    · show (if x = tv v then io (vct vs (tv v) + 1) else gA s 33 x) = _
      rw [vct_snoc]
      by_cases h : x = tv v
      · rw [if_pos h, if_pos h.symm, h]
      · rw [if_neg h, if_neg (fun e : tv v = x => h e.symm)]
        exact t5 x hx
    all_goals rfl
  refine ⟨_, ?_, key _ rfl⟩
  rw [vsum_snoc, vlo_snoc, vhi_snoc, vdst_snoc]
  by_cases h0 : vs.length = 0
  · have h0' : ¬ 0 < 0 := by omega
    have h1 : (0 : Nat) < 100 := by omega
    by_cases h2 : vct vs (tv v) = 0
    · rw [h2] at ht
      simp (disch := omega) only [f_Tally_addw, f_Tally_addw_b70, f_Tally_addw_b115, Option.bind_some, Nat.reduceEqDiff, Nat.add_zero, Nat.zero_add, Nat.reduceLT, Nat.reduceLeDiff, Nat.reduceAdd, Nat.reduceSub, Nat.reduceMul, Nat.reduceDiv, Nat.lt_irrefl, Nat.not_lt_zero, Nat.zero_le, Nat.one_ne_zero, Nat.succ_ne_zero,  lt_def, i32_lit, reduceIte, P_isIn_eq, M_isIn_eq, M_goes_eq, or_false, false_or, or_true, true_or, and_true, true_and, and_false, false_and, not_true, not_false_eq_true, eq_self, if_true, if_false, not_or, not_and, Nat.not_lt, Nat.not_le, gI_sI, gI_sA, gI_sL, gI_sJ, gI_sR, gI_sQ, gI_sD, gI_sN, gI_sz, gA_sI, gA_sA, gA_sL, gA_sJ, gA_sR, gA_sQ, gA_sD, gA_sN, gA_sz, gL_sI, gL_sA, gL_sL, gL_sJ, gL_sR, gL_sQ, gL_sD, gL_sN, gL_sz, gJ_sI, gJ_sA, gJ_sL, gJ_sJ, gJ_sR, gJ_sQ, gJ_sD, gJ_sN, gJ_sz, gR_sI, gR_sA, gR_sL, gR_sJ, gR_sR, gR_sQ, gR_sD, gR_sN, gR_sz, gQ_sI, gQ_sA, gQ_sL, gQ_sJ, gQ_sR, gQ_sQ, gQ_sD, gQ_sN, gQ_sz, gD_sI, gD_sA, gD_sL, gD_sJ, gD_sR, gD_sQ, gD_sD, gD_sN, gD_sz, sz_sI, sz_sA, sz_sL, sz_sJ, sz_sR, sz_sQ, sz_sD, sz_sN, sz_sz, hio, io_lt, io_le, n1, t2, h0, h1, ix_io, io_eq, ht, h2, u1, u4, io_add]
    · simp (disch := omega) only [f_Tally_addw, f_Tally_addw_b70, f_Tally_addw_b115, Option.bind_some, Nat.reduceEqDiff, Nat.add_zero, Nat.zero_add, Nat.reduceLT, Nat.reduceLeDiff, Nat.reduceAdd, Nat.reduceSub, Nat.reduceMul, Nat.reduceDiv, Nat.lt_irrefl, Nat.not_lt_zero, Nat.zero_le, Nat.one_ne_zero, Nat.succ_ne_zero,  lt_def, i32_lit, reduceIte, P_isIn_eq, M_isIn_eq, M_goes_eq, or_false, false_or, or_true, true_or, and_true, true_and, and_false, false_and, not_true, not_false_eq_true, eq_self, if_true, if_false, not_or, not_and, Nat.not_lt, Nat.not_le, gI_sI, gI_sA, gI_sL, gI_sJ, gI_sR, gI_sQ, gI_sD, gI_sN, gI_sz, gA_sI, gA_sA, gA_sL, gA_sJ, gA_sR, gA_sQ, gA_sD, gA_sN, gA_sz, gL_sI, gL_sA, gL_sL, gL_sJ, gL_sR, gL_sQ, gL_sD, gL_sN, gL_sz, gJ_sI, gJ_sA, gJ_sL, gJ_sJ, gJ_sR, gJ_sQ, gJ_sD, gJ_sN, gJ_sz, gR_sI, gR_sA, gR_sL, gR_sJ, gR_sR, gR_sQ, gR_sD, gR_sN, gR_sz, gQ_sI, gQ_sA, gQ_sL, gQ_sJ, gQ_sR, gQ_sQ, gQ_sD, gQ_sN, gQ_sz, gD_sI, gD_sA, gD_sL, gD_sJ, gD_sR, gD_sQ, gD_sD, gD_sN, gD_sz, sz_sI, sz_sA, sz_sL, sz_sJ, sz_sR, sz_sQ, sz_sD, sz_sN, sz_sz, hio, io_lt, io_le, n1, t2, h0, h1, ix_io, io_eq, ht, h2, u1, u4, io_add]
  · have h1 : vs.length < 100 := hl
    have h3 : ¬ vs.length < 0 := by omega
    by_cases h2 : vct vs (tv v) = 0
    · rw [h2] at ht
      simp (disch := omega) only [f_Tally_addw, f_Tally_addw_b70, f_Tally_addw_b115, Option.bind_some, Nat.reduceEqDiff, Nat.add_zero, Nat.zero_add, Nat.reduceLT, Nat.reduceLeDiff, Nat.reduceAdd, Nat.reduceSub, Nat.reduceMul, Nat.reduceDiv, Nat.lt_irrefl, Nat.not_lt_zero, Nat.zero_le, Nat.one_ne_zero, Nat.succ_ne_zero,  lt_def, i32_lit, reduceIte, P_isIn_eq, M_isIn_eq, M_goes_eq, or_false, false_or, or_true, true_or, and_true, true_and, and_false, false_and, not_true, not_false_eq_true, eq_self, if_true, if_false, not_or, not_and, Nat.not_lt, Nat.not_le, gI_sI, gI_sA, gI_sL, gI_sJ, gI_sR, gI_sQ, gI_sD, gI_sN, gI_sz, gA_sI, gA_sA, gA_sL, gA_sJ, gA_sR, gA_sQ, gA_sD, gA_sN, gA_sz, gL_sI, gL_sA, gL_sL, gL_sJ, gL_sR, gL_sQ, gL_sD, gL_sN, gL_sz, gJ_sI, gJ_sA, gJ_sL, gJ_sJ, gJ_sR, gJ_sQ, gJ_sD, gJ_sN, gJ_sz, gR_sI, gR_sA, gR_sL, gR_sJ, gR_sR, gR_sQ, gR_sD, gR_sN, gR_sz, gQ_sI, gQ_sA, gQ_sL, gQ_sJ, gQ_sR, gQ_sQ, gQ_sD, gQ_sN, gQ_sz, gD_sI, gD_sA, gD_sL, gD_sJ, gD_sR, gD_sQ, gD_sD, gD_sN, gD_sz, sz_sI, sz_sA, sz_sL, sz_sJ, sz_sR, sz_sQ, sz_sD, sz_sN, sz_sz, hio, io_lt, io_le, n1, t2, h0, h1, h3, ix_io, io_eq, ht, h2, u1, u2, u3, u4, io_add]
    · simp (disch := omega) only [f_Tally_addw, f_Tally_addw_b70, f_Tally_addw_b115, Option.bind_some, Nat.reduceEqDiff, Nat.add_zero, Nat.zero_add, Nat.reduceLT, Nat.reduceLeDiff, Nat.reduceAdd, Nat.reduceSub, Nat.reduceMul, Nat.reduceDiv, Nat.lt_irrefl, Nat.not_lt_zero, Nat.zero_le, Nat.one_ne_zero, Nat.succ_ne_zero,  lt_def, i32_lit, reduceIte, P_isIn_eq, M_isIn_eq, M_goes_eq, or_false, false_or, or_true, true_or, and_true, true_and, and_false, false_and, not_true, not_false_eq_true, eq_self, if_true, if_false, not_or, not_and, Nat.not_lt, Nat.not_le, gI_sI, gI_sA, gI_sL, gI_sJ, gI_sR, gI_sQ, gI_sD, gI_sN, gI_sz, gA_sI, gA_sA, gA_sL, gA_sJ, gA_sR, gA_sQ, gA_sD, gA_sN, gA_sz, gL_sI, gL_sA, gL_sL, gL_sJ, gL_sR, gL_sQ, gL_sD, gL_sN, gL_sz, gJ_sI, gJ_sA, gJ_sL, gJ_sJ, gJ_sR, gJ_sQ, gJ_sD, gJ_sN, gJ_sz, gR_sI, gR_sA, gR_sL, gR_sJ, gR_sR, gR_sQ, gR_sD, gR_sN, gR_sz, gQ_sI, gQ_sA, gQ_sL, gQ_sJ, gQ_sR, gQ_sQ, gQ_sD, gQ_sN, gQ_sz, gD_sI, gD_sA, gD_sL, gD_sJ, gD_sR, gD_sQ, gD_sD, gD_sN, gD_sz, sz_sI, sz_sA, sz_sL, sz_sJ, sz_sR, sz_sQ, sz_sD, sz_sN, sz_sz, hio, io_lt, io_le, n1, t2, h0, h1, h3, ix_io, io_eq, ht, h2, u1, u2, u3, u4, io_add]
theorem most_loopw {F : Nat} {s : St} {vs : List Int32} (T : TLw s vs) : ∀ (k n i : Nat), i + k = vs.length → k < n → (vmo vs i).1 ≤ 100 → f_Tally_mostOftenw_b7 F n s (io (vmo vs i).1) (vmo vs i).2 (io i) = some ((vmo vs vs.length).2, s) := by
  obtain ⟨t1, t2, t3, t4, t5⟩ := T
  intro k
  induction k with
  | zero =>
    intro n i hi hn hm
    obtain ⟨n, rfl⟩ : ∃ n', n = n' + 1 := ⟨n - 1, by omega⟩
    have hi' : i = vs.length := by omega
    subst hi'
    simp (disch := omega) only [f_Tally_mostOftenw_b7, Option.bind_some, Nat.reduceEqDiff, Nat.add_zero, Nat.zero_add, Nat.reduceLT, Nat.reduceLeDiff, Nat.reduceAdd, Nat.reduceSub, Nat.reduceMul, Nat.reduceDiv, Nat.lt_irrefl, Nat.not_lt_zero, Nat.zero_le, Nat.one_ne_zero, Nat.succ_ne_zero,  lt_def, i32_lit, reduceIte, P_isIn_eq, M_isIn_eq, M_goes_eq, or_false, false_or, or_true, true_or, and_true, true_and, and_false, false_and, not_true, not_false_eq_true, eq_self, if_true, if_false, not_or, not_and, Nat.not_lt, Nat.not_le, t2, io_le, Nat.le_refl]
  | succ k ih =>
    intro n i hi hn hm
    obtain ⟨n, rfl⟩ : ∃ n', n = n' + 1 := ⟨n - 1, by omega⟩
    have hlt : i < vs.length := by omega
    have h1 : ¬ vs.length ≤ i := by omega
    have h2 : ¬ 100 ≤ i := by omega
    have es := t3 i hlt
    have hv := t4 vs[i] (List.getElem_mem hlt)
    have hle := tv_le hv
    have hio := tv_io hv
    have h3 : ¬ 2001 ≤ tv vs[i] := by omega
    have ht := t5 (tv vs[i]) (by omega)
    have hct := vct_le vs (tv vs[i])
    have eg : vs.getD i 0 = vs[i] := by rw [List.getD_eq_getElem?_getD, List.getElem?_eq_getElem hlt]; rfl
    have h4 := ih n (i + 1) (by omega) (by omega)
    rw [vmo, eg] at h4
    by_cases hc : (vmo vs i).1 < vct vs (tv vs[i])
    · rw [if_pos hc] at h4
      have hc' : ¬ vct vs (tv vs[i]) ≤ (vmo vs i).1 := by omega
      simp (disch := omega) only [f_Tally_mostOftenw_b7, Option.bind_some, Nat.reduceEqDiff, Nat.add_zero, Nat.zero_add, Nat.reduceLT, Nat.reduceLeDiff, Nat.reduceAdd, Nat.reduceSub, Nat.reduceMul, Nat.reduceDiv, Nat.lt_irrefl, Nat.not_lt_zero, Nat.zero_le, Nat.one_ne_zero, Nat.succ_ne_zero,  lt_def, i32_lit, reduceIte, P_isIn_eq, M_isIn_eq, M_goes_eq, or_false, false_or, or_true, true_or, and_true, true_and, and_false, false_and, not_true, not_false_eq_true, eq_self, if_true, if_false, not_or, not_and, Nat.not_lt, Nat.not_le, t2, io_le, h1, h2, ix_io, es, hio, io_lt, h3, ht, hc', io_add]
      exact h4 (by show vct vs (tv vs[i]) ≤ 100; omega)
    · rw [if_neg hc] at h4
      have hc' : vct vs (tv vs[i]) ≤ (vmo vs i).1 := by omega
      simp (disch := omega) only [f_Tally_mostOftenw_b7, Option.bind_some, Nat.reduceEqDiff, Nat.add_zero, Nat.zero_add, Nat.reduceLT, Nat.reduceLeDiff, Nat.reduceAdd, Nat.reduceSub, Nat.reduceMul, Nat.reduceDiv, Nat.lt_irrefl, Nat.not_lt_zero, Nat.zero_le, Nat.one_ne_zero, Nat.succ_ne_zero,  lt_def, i32_lit, reduceIte, P_isIn_eq, M_isIn_eq, M_goes_eq, or_false, false_or, or_true, true_or, and_true, true_and, and_false, false_and, not_true, not_false_eq_true, eq_self, if_true, if_false, not_or, not_and, Nat.not_lt, Nat.not_le, t2, io_le, h1, h2, ix_io, es, hio, io_lt, h3, ht, hc', io_add]
      exact h4 hm
theorem result_eqw {F k : Nat} (hF : 5000 ≤ F) (hk : k < 2147483648) {s : St} {vs : List Int32} (T : TSw s vs) : f_Tally_resultw F s (io k) = some (vag k vs, s) := by
  have hl := T.1.1
  obtain ⟨T0, u1, u2, u3, u4⟩ := T
  have hm := most_loopw (F := F) T0 vs.length F 0 (by omega) (by omega) (Nat.zero_le _)
  have e2 := T0.2.1
  unfold vag
  by_cases k1 : k = 100
  · subst k1; simp (disch := omega) only [f_Tally_resultw, Option.bind_some, Nat.reduceEqDiff, Nat.add_zero, Nat.zero_add, Nat.reduceLT, Nat.reduceLeDiff, Nat.reduceAdd, Nat.reduceSub, Nat.reduceMul, Nat.reduceDiv, Nat.lt_irrefl, Nat.not_lt_zero, Nat.zero_le, Nat.one_ne_zero, Nat.succ_ne_zero,  lt_def, i32_lit, reduceIte, P_isIn_eq, M_isIn_eq, M_goes_eq, or_false, false_or, or_true, true_or, and_true, true_and, and_false, false_and, not_true, not_false_eq_true, eq_self, if_true, if_false, not_or, not_and, Nat.not_lt, Nat.not_le, u4]
  · by_cases k2 : k = 109
    · subst k2; simp (disch := omega) only [f_Tally_resultw, Option.bind_some, Nat.reduceEqDiff, Nat.add_zero, Nat.zero_add, Nat.reduceLT, Nat.reduceLeDiff, Nat.reduceAdd, Nat.reduceSub, Nat.reduceMul, Nat.reduceDiv, Nat.lt_irrefl, Nat.not_lt_zero, Nat.zero_le, Nat.one_ne_zero, Nat.succ_ne_zero,  lt_def, i32_lit, reduceIte, P_isIn_eq, M_isIn_eq, M_goes_eq, or_false, false_or, or_true, true_or, and_true, true_and, and_false, false_and, not_true, not_false_eq_true, eq_self, if_true, if_false, not_or, not_and, Nat.not_lt, Nat.not_le, io_eq, u2]
    · by_cases k3 : k = 110
      · subst k3; simp (disch := omega) only [f_Tally_resultw, Option.bind_some, Nat.reduceEqDiff, Nat.add_zero, Nat.zero_add, Nat.reduceLT, Nat.reduceLeDiff, Nat.reduceAdd, Nat.reduceSub, Nat.reduceMul, Nat.reduceDiv, Nat.lt_irrefl, Nat.not_lt_zero, Nat.zero_le, Nat.one_ne_zero, Nat.succ_ne_zero,  lt_def, i32_lit, reduceIte, P_isIn_eq, M_isIn_eq, M_goes_eq, or_false, false_or, or_true, true_or, and_true, true_and, and_false, false_and, not_true, not_false_eq_true, eq_self, if_true, if_false, not_or, not_and, Nat.not_lt, Nat.not_le, io_eq, e2]
      · by_cases k4 : k = 115
        · subst k4; simp (disch := omega) only [f_Tally_resultw, Option.bind_some, Nat.reduceEqDiff, Nat.add_zero, Nat.zero_add, Nat.reduceLT, Nat.reduceLeDiff, Nat.reduceAdd, Nat.reduceSub, Nat.reduceMul, Nat.reduceDiv, Nat.lt_irrefl, Nat.not_lt_zero, Nat.zero_le, Nat.one_ne_zero, Nat.succ_ne_zero,  lt_def, i32_lit, reduceIte, P_isIn_eq, M_isIn_eq, M_goes_eq, or_false, false_or, or_true, true_or, and_true, true_and, and_false, false_and, not_true, not_false_eq_true, eq_self, if_true, if_false, not_or, not_and, Nat.not_lt, Nat.not_le, io_eq, u1]
        · by_cases k5 : k = 116
          · subst k5
            have hm' : f_Tally_mostOftenw F s = some ((vmo vs vs.length).2, s) := hm
            simp (disch := omega) only [f_Tally_resultw, Option.bind_some, Nat.reduceEqDiff, Nat.add_zero, Nat.zero_add, Nat.reduceLT, Nat.reduceLeDiff, Nat.reduceAdd, Nat.reduceSub, Nat.reduceMul, Nat.reduceDiv, Nat.lt_irrefl, Nat.not_lt_zero, Nat.zero_le, Nat.one_ne_zero, Nat.succ_ne_zero,  lt_def, i32_lit, reduceIte, P_isIn_eq, M_isIn_eq, M_goes_eq, or_false, false_or, or_true, true_or, and_true, true_and, and_false, false_and, not_true, not_false_eq_true, eq_self, if_true, if_false, not_or, not_and, Nat.not_lt, Nat.not_le, io_eq, hm']
          · by_cases k6 : k = 120
            · subst k6; simp (disch := omega) only [f_Tally_resultw, Option.bind_some, Nat.reduceEqDiff, Nat.add_zero, Nat.zero_add, Nat.reduceLT, Nat.reduceLeDiff, Nat.reduceAdd, Nat.reduceSub, Nat.reduceMul, Nat.reduceDiv, Nat.lt_irrefl, Nat.not_lt_zero, Nat.zero_le, Nat.one_ne_zero, Nat.succ_ne_zero,  lt_def, i32_lit, reduceIte, P_isIn_eq, M_isIn_eq, M_goes_eq, or_false, false_or, or_true, true_or, and_true, true_and, and_false, false_and, not_true, not_false_eq_true, eq_self, if_true, if_false, not_or, not_and, Nat.not_lt, Nat.not_le, io_eq, u3]
            · simp (disch := omega) only [f_Tally_resultw, Option.bind_some, Nat.reduceEqDiff, Nat.add_zero, Nat.zero_add, Nat.reduceLT, Nat.reduceLeDiff, Nat.reduceAdd, Nat.reduceSub, Nat.reduceMul, Nat.reduceDiv, Nat.lt_irrefl, Nat.not_lt_zero, Nat.zero_le, Nat.one_ne_zero, Nat.succ_ne_zero,  lt_def, i32_lit, reduceIte, P_isIn_eq, M_isIn_eq, M_goes_eq, or_false, false_or, or_true, true_or, and_true, true_and, and_false, false_and, not_true, not_false_eq_true, eq_self, if_true, if_false, not_or, not_and, Nat.not_lt, Nat.not_le, io_eq, k1, k2, k3, k4, k5, k6]
/-! the tally r -/
def TLr (s : St) (vs : List Int32) : Prop := vs.length ≤ 100 ∧ gI s 2241 = io vs.length ∧ (∀ i (h : i < vs.length), gA s 36 i = vs[i]) ∧ (∀ v ∈ vs, vok v) ∧ ∀ x, x < 2001 → gA s 37 x = io (vct vs x)
def TSr (s : St) (vs : List Int32) : Prop := TLr s vs ∧ gL s 2242 = vsum vs ∧ gI s 2243 = vlo vs ∧ gI s 2244 = vhi vs ∧ gI s 2245 = io (vdst vs)
theorem clear_loopr {F : Nat} {s0 : St} {vs : List Int32} (T : TLr s0 vs) : ∀ (k n i : Nat) (s : St), i + k = vs.length → k < n → Fr [] [37] s0 s → (∀ x, x < 2001 → gA s 37 x = if vct (vs.take i) x = 0 then gA s0 37 x else io 0) →
    ∃ s', f_Tally_clearr_b2 F n s (io i) = f_Tally_clearr_b56 F s' ∧ Fr [] [37] s0 s' ∧ (∀ x, x < 2001 → gA s' 37 x = if vct vs x = 0 then gA s0 37 x else io 0) ∧ gJ s' = gJ s := by
  obtain ⟨t1, t2, t3, t4, t5⟩ := T
  intro k
  induction k with
  | zero =>
    intro n i s hi hn f hx
    obtain ⟨n, rfl⟩ : ∃ n', n = n' + 1 := ⟨n - 1, by omega⟩
    have hi' : i = vs.length := by omega
    subst hi'
    have ec : gI s 2241 = io vs.length := by rw [f.gi 2241 (by decide)]; exact t2
    rw [List.take_length] at hx
    refine ⟨s, ?_, f, hx, rfl⟩
    simp (disch := omega) only [f_Tally_clearr_b2, Option.bind_some, Nat.reduceEqDiff, Nat.add_zero, Nat.zero_add, Nat.reduceLT, Nat.reduceLeDiff, Nat.reduceAdd, Nat.reduceSub, Nat.reduceMul, Nat.reduceDiv, Nat.lt_irrefl, Nat.not_lt_zero, Nat.zero_le, Nat.one_ne_zero, Nat.succ_ne_zero,  lt_def, i32_lit, reduceIte, P_isIn_eq, M_isIn_eq, M_goes_eq, or_false, false_or, or_true, true_or, and_true, true_and, and_false, false_and, not_true, not_false_eq_true, eq_self, if_true, if_false, not_or, not_and, Nat.not_lt, Nat.not_le, ec, io_le, Nat.le_refl]
  | succ k ih =>
    intro n i s hi hn f hx
    obtain ⟨n, rfl⟩ : ∃ n', n = n' + 1 := ⟨n - 1, by omega⟩
    have ec : gI s 2241 = io vs.length := by rw [f.gi 2241 (by decide)]; exact t2
    have hlt : i < vs.length := by omega
    have h1 : ¬ vs.length ≤ i := by omega
    have h2 : ¬ 100 ≤ i := by omega
    have es : gA s 36 i = vs[i] := by rw [f.ga 36 (by decide)]; exact t3 i hlt
    have hv := t4 vs[i] (List.getElem_mem hlt)
    have hle := tv_le hv
    have hio := tv_io hv
    have h3 : ¬ 2001 ≤ tv vs[i] := by omega
    have etk : vs.take (i + 1) = vs.take i ++ [vs[i]] := by rw [List.take_succ_eq_append_getElem hlt]
    obtain ⟨s', e1, e2, e3, e4⟩ := ih n (i + 1) (sA s 37 (tv vs[i]) (io 0)) (by omega) (by omega) (f.A (by decide)) (fun x hx2 => by
      rw [gA_sA, if_pos rfl, etk, vct_snoc]
      by_cases hxt : x = tv vs[i]
      · rw [if_pos hxt, if_pos hxt.symm, if_neg (by omega)]
      · rw [if_neg hxt, if_neg (fun e : tv vs[i] = x => hxt e.symm), Nat.add_zero]
        exact hx x hx2)
    refine ⟨s', ?_, e2, e3, e4⟩
    simp (disch := omega) only [f_Tally_clearr_b2, Option.bind_some, Nat.reduceEqDiff, Nat.add_zero, Nat.zero_add, Nat.reduceLT, Nat.reduceLeDiff, Nat.reduceAdd, Nat.reduceSub, Nat.reduceMul, Nat.reduceDiv, Nat.lt_irrefl, Nat.not_lt_zero, Nat.zero_le, Nat.one_ne_zero, Nat.succ_ne_zero,  lt_def, i32_lit, reduceIte, P_isIn_eq, M_isIn_eq, M_goes_eq, or_false, false_or, or_true, true_or, and_true, true_and, and_false, false_and, not_true, not_false_eq_true, eq_self, if_true, if_false, not_or, not_and, Nat.not_lt, Nat.not_le, ec, io_le, h1, h2, ix_io, es, hio, io_lt, h3, io_add]
    exact e1
theorem clear_eqr {F : Nat} (hF : 5000 ≤ F) {s : St} {vs : List Int32} (T : TLr s vs) : ∃ s', f_Tally_clearr F s = some s' ∧ TSr s' [] ∧ Fr [2241, 2243, 2244, 2245] [37] s s' ∧ gJ s' = gJ s := by
  have hl := T.1
  obtain ⟨s', e1, e2, e3, e4⟩ := clear_loopr (F := F) T vs.length F 0 s (by omega) (by omega) Fr.rf (fun x hx => by rw [List.take_zero]; exact (if_pos rfl).symm)
  refine ⟨sI (sI (sI (sL (sI s' 2241 (io 0)) 2242 0) 2243 (io 0)) 2244 (io 0)) 2245 (io 0), ?_, ⟨⟨Nat.zero_le _, rfl, fun i h => absurd h (Nat.not_lt_zero _), (fun v hv => (List.not_mem_nil hv).elim), fun x hx => ?_⟩, rfl, rfl, rfl, rfl⟩, ((((e2.wide (by decide) (by decide)).I (by decide)).L.I (by decide)).I (by decide)).I (by decide), e4⟩
  · simp (disch := omega) only [f_Tally_clearr, Option.bind_some, Nat.reduceEqDiff, Nat.add_zero, Nat.zero_add, Nat.reduceLT, Nat.reduceLeDiff, Nat.reduceAdd, Nat.reduceSub, Nat.reduceMul, Nat.reduceDiv, Nat.lt_irrefl, Nat.not_lt_zero, Nat.zero_le, Nat.one_ne_zero, Nat.succ_ne_zero,  lt_def, i32_lit, reduceIte, P_isIn_eq, M_isIn_eq, M_goes_eq, or_false, false_or, or_true, true_or, and_true, true_and, and_false, false_and, not_true, not_false_eq_true, eq_self, if_true, if_false, not_or, not_and, Nat.not_lt, Nat.not_le]
    rw [e1]
    rfl
  · show gA s' 37 x = io 0
    rw [e3 x hx]
    by_cases h : vct vs x = 0
    · rw [if_pos h, T.2.2.2.2 x hx, h]
    · rw [if_neg h]
theorem add_eqr {F : Nat} {s : St} {vs : List Int32} {v : Int32} (T : TSr s vs) (hv : vok v) (hl : vs.length < 100) : ∃ s', f_Tally_addr F s v = some s' ∧ TSr s' (vs ++ [v]) ∧ Fr [2241, 2243, 2244, 2245] [36, 37] s s' ∧ gJ s' = gJ s := by
  obtain ⟨⟨t1, t2, t3, t4, t5⟩, u1, u2, u3, u4⟩ := T
  have hle := tv_le hv
  have hio := tv_io hv
  have hct := vct_le vs (tv v)
  have hd := vdst_le vs
  have ht := t5 (tv v) (by omega)
  have n1 : ¬ 2001 ≤ tv v := by omega
  have key : ∀ s', s' = sI (sA (sA (sI (sI (sI (sL s 2242 (vsum (vs ++ [v]))) 2243 (vlo (vs ++ [v]))) 2244 (vhi (vs ++ [v]))) 2245 (io (vdst (vs ++ [v])))) 37 (tv v) (io (vct vs (tv v) + 1))) 36 vs.length v) 2241 (io (vs.length + 1)) → TSr s' (vs ++ [v]) ∧ Fr [2241, 2243, 2244, 2245] [36, 37] s s' ∧ gJ s' = gJ s := by
    intro s' he
    subst he
    refine ⟨⟨⟨by rw [List.length_append]; show vs.length + 1 ≤ 100; omega, by rw [List.length_append]; rfl, fun i hi => ?_, fun w hw => ?_, fun x hx => ?_⟩, ?_, ?_, ?_, ?_⟩, ((((((Fr.rf.L).I (by decide)).I (by decide)).I (by decide)).A (by decide)).A (by decide)).I (by decide), rfl⟩
    · rw [List.length_append] at hi
      have hi' : i < vs.length + 1 := hi
      show (if i = vs.length then v else gA s 36 i) = _
      by_cases h : i = vs.length
      · subst h
        rw [if_pos rfl, List.getElem_append_right (Nat.le_refl _)]
        simp
      · rw [if_neg h, List.getElem_append_left (by omega)]
        exact t3 i (by omega)
    · rcases List.mem_append.mp hw with h | h
      · exact t4 w h
      · rw [List.mem_singleton.mp h]; exact hv
    · show (if x = tv v then io (vct vs (tv v) + 1) else gA s 37 x) = _
      rw [vct_snoc]
      by_cases h : x = tv v
      · rw [if_pos h, if_pos h.symm, h]
      · rw [if_neg h, if_neg (fun e : tv v = x => h e.symm)]
        exact t5 x hx
    all_goals rfl
  refine ⟨_, ?_, key _ rfl⟩
  rw [vsum_snoc, vlo_snoc, vhi_snoc, vdst_snoc]
  by_cases h0 : vs.length = 0
  · have h0' : ¬ 0 < 0 := by omega
    have h1 : (0 : Nat) < 100 := by omega
    by_cases h2 : vct vs (tv v) = 0
    · rw [h2] at ht
      simp (disch := omega) only [f_Tally_addr, f_Tally_addr_b70, f_Tally_addr_b115, Option.bind_some, Nat.reduceEqDiff, Nat.add_zero, Nat.zero_add, Nat.reduceLT, Nat.reduceLeDiff, Nat.reduceAdd, Nat.reduceSub, Nat.reduceMul, Nat.reduceDiv, Nat.lt_irrefl, Nat.not_lt_zero, Nat.zero_le, Nat.one_ne_zero, Nat.succ_ne_zero,  lt_def, i32_lit, reduceIte, P_isIn_eq, M_isIn_eq, M_goes_eq, or_false, false_or, or_true, true_or, and_true, true_and, and_false, false_and, not_true, not_false_eq_true, eq_self, if_true, if_false, not_or, not_and, Nat.not_lt, Nat.not_le, gI_sI, gI_sA, gI_sL, gI_sJ, gI_sR, gI_sQ, gI_sD, gI_sN, gI_sz, gA_sI, gA_sA, gA_sL, gA_sJ, gA_sR, gA_sQ, gA_sD, gA_sN, gA_sz, gL_sI, gL_sA, gL_sL, gL_sJ, gL_sR, gL_sQ, gL_sD, gL_sN, gL_sz, gJ_sI, gJ_sA, gJ_sL, gJ_sJ, gJ_sR, gJ_sQ, gJ_sD, gJ_sN, gJ_sz, gR_sI, gR_sA, gR_sL, gR_sJ, gR_sR, gR_sQ, gR_sD, gR_sN, gR_sz, gQ_sI, gQ_sA, gQ_sL, gQ_sJ, gQ_sR, gQ_sQ, gQ_sD, gQ_sN, gQ_sz, gD_sI, gD_sA, gD_sL, gD_sJ, gD_sR, gD_sQ, gD_sD, gD_sN, gD_sz, sz_sI, sz_sA, sz_sL, sz_sJ, sz_sR, sz_sQ, sz_sD, sz_sN, sz_sz, hio, io_lt, io_le, n1, t2, h0, h1, ix_io, io_eq, ht, h2, u1, u4, io_add]
    · simp (disch := omega) only [f_Tally_addr, f_Tally_addr_b70, f_Tally_addr_b115, Option.bind_some, Nat.reduceEqDiff, Nat.add_zero, Nat.zero_add, Nat.reduceLT, Nat.reduceLeDiff, Nat.reduceAdd, Nat.reduceSub, Nat.reduceMul, Nat.reduceDiv, Nat.lt_irrefl, Nat.not_lt_zero, Nat.zero_le, Nat.one_ne_zero, Nat.succ_ne_zero,  lt_def, i32_lit, reduceIte, P_isIn_eq, M_isIn_eq, M_goes_eq, or_false, false_or, or_true, true_or, and_true, true_and, and_false, false_and, not_true, not_false_eq_true, eq_self, if_true, if_false, not_or, not_and, Nat.not_lt, Nat.not_le, gI_sI, gI_sA, gI_sL, gI_sJ, gI_sR, gI_sQ, gI_sD, gI_sN, gI_sz, gA_sI, gA_sA, gA_sL, gA_sJ, gA_sR, gA_sQ, gA_sD, gA_sN, gA_sz, gL_sI, gL_sA, gL_sL, gL_sJ, gL_sR, gL_sQ, gL_sD, gL_sN, gL_sz, gJ_sI, gJ_sA, gJ_sL, gJ_sJ, gJ_sR, gJ_sQ, gJ_sD, gJ_sN, gJ_sz, gR_sI, gR_sA, gR_sL, gR_sJ, gR_sR, gR_sQ, gR_sD, gR_sN, gR_sz, gQ_sI, gQ_sA, gQ_sL, gQ_sJ, gQ_sR, gQ_sQ, gQ_sD, gQ_sN, gQ_sz, gD_sI, gD_sA, gD_sL, gD_sJ, gD_sR, gD_sQ, gD_sD, gD_sN, gD_sz, sz_sI, sz_sA, sz_sL, sz_sJ, sz_sR, sz_sQ, sz_sD, sz_sN, sz_sz, hio, io_lt, io_le, n1, t2, h0, h1, ix_io, io_eq, ht, h2, u1, u4, io_add]
  · have h1 : vs.length < 100 := hl
    have h3 : ¬ vs.length < 0 := by omega
    by_cases h2 : vct vs (tv v) = 0
    · rw [h2] at ht
      simp (disch := omega) only [f_Tally_addr, f_Tally_addr_b70, f_Tally_addr_b115, Option.bind_some, Nat.reduceEqDiff, Nat.add_zero, Nat.zero_add, Nat.reduceLT, Nat.reduceLeDiff, Nat.reduceAdd, Nat.reduceSub, Nat.reduceMul, Nat.reduceDiv, Nat.lt_irrefl, Nat.not_lt_zero, Nat.zero_le, Nat.one_ne_zero, Nat.succ_ne_zero,  lt_def, i32_lit, reduceIte, P_isIn_eq, M_isIn_eq, M_goes_eq, or_false, false_or, or_true, true_or, and_true, true_and, and_false, false_and, not_true, not_false_eq_true, eq_self, if_true, if_false, not_or, not_and, Nat.not_lt, Nat.not_le, gI_sI, gI_sA, gI_sL, gI_sJ, gI_sR, gI_sQ, gI_sD, gI_sN, gI_sz, gA_sI, gA_sA, gA_sL, gA_sJ, gA_sR, gA_sQ, gA_sD, gA_sN, gA_sz, gL_sI, gL_sA, gL_sL, gL_sJ, gL_sR, gL_sQ, gL_sD, gL_sN, gL_sz, gJ_sI, gJ_sA, gJ_sL, gJ_sJ, gJ_sR, gJ_sQ, gJ_sD, gJ_sN, gJ_sz, gR_sI, gR_sA, gR_sL, gR_sJ, gR_sR, gR_sQ, gR_sD, gR_sN, gR_sz, gQ_sI, gQ_sA, gQ_sL, gQ_sJ, gQ_sR, gQ_sQ, gQ_sD, gQ_sN, gQ_sz, gD_sI, gD_sA, gD_sL, gD_sJ, gD_sR, gD_sQ, gD_sD, gD_sN, gD_sz, sz_sI, sz_sA, sz_sL, sz_sJ, sz_sR, sz_sQ, sz_sD, sz_sN, sz_sz, hio, io_lt, io_le, n1, t2, h0, h1, h3, ix_io, io_eq, ht, h2, u1, u2, u3, u4, io_add]
    · simp (disch := omega) only [f_Tally_addr, f_Tally_addr_b70, f_Tally_addr_b115, Option.bind_some, Nat.reduceEqDiff, Nat.add_zero, Nat.zero_add, Nat.reduceLT, Nat.reduceLeDiff, Nat.reduceAdd, Nat.reduceSub, Nat.reduceMul, Nat.reduceDiv, Nat.lt_irrefl, Nat.not_lt_zero, Nat.zero_le, Nat.one_ne_zero, Nat.succ_ne_zero,  lt_def, i32_lit, reduceIte, P_isIn_eq, M_isIn_eq, M_goes_eq, or_false, false_or, or_true, true_or, and_true, true_and, and_false, false_and, not_true, not_false_eq_true, eq_self, if_true, if_false, not_or, not_and, Nat.not_lt, Nat.not_le, gI_sI, gI_sA, gI_sL, gI_sJ, gI_sR, gI_sQ, gI_sD, gI_sN, gI_sz, gA_sI, gA_sA, gA_sL, gA_sJ, gA_sR, gA_sQ, gA_sD, gA_sN, gA_sz, gL_sI, gL_sA, gL_sL, gL_sJ, gL_sR, gL_sQ, gL_sD, gL_sN, gL_sz, gJ_sI, gJ_sA, gJ_sL, gJ_sJ, gJ_sR, gJ_sQ, gJ_sD, gJ_sN, gJ_sz, gR_sI, gR_sA, gR_sL, gR_sJ, gR_sR, gR_sQ, gR_sD, gR_sN, gR_sz, gQ_sI, gQ_sA, gQ_sL, gQ_sJ, gQ_sR, gQ_sQ, gQ_sD, gQ_sN, gQ_sz, gD_sI, gD_sA, gD_sL, gD_sJ, gD_sR, gD_sQ, gD_sD, gD_sN, gD_sz, sz_sI, sz_sA, sz_sL, sz_sJ, sz_sR, sz_sQ, sz_sD, sz_sN, sz_sz, hio, io_lt, io_le, n1, t2, h0, h1, h3, ix_io, io_eq, ht, h2, u1, u2, u3, u4, io_add]
theorem most_loopr {F : Nat} {s : St} {vs : List Int32} (T : TLr s vs) : ∀ (k n i : Nat), i + k = vs.length → k < n → (vmo vs i).1 ≤ 100 → f_Tally_mostOftenr_b7 F n s (io (vmo vs i).1) (vmo vs i).2 (io i) = some ((vmo vs vs.length).2, s) := by
  obtain ⟨t1, t2, t3, t4, t5⟩ := T
  intro k
  induction k with
  | zero =>
    intro n i hi hn hm
    obtain ⟨n, rfl⟩ : ∃ n', n = n' + 1 := ⟨n - 1, by omega⟩
    have hi' : i = vs.length := by omega
    subst hi'
    simp (disch := omega) only [f_Tally_mostOftenr_b7, Option.bind_some, Nat.reduceEqDiff, Nat.add_zero, Nat.zero_add, Nat.reduceLT, Nat.reduceLeDiff, Nat.reduceAdd, Nat.reduceSub, Nat.reduceMul, Nat.reduceDiv, Nat.lt_irrefl, Nat.not_lt_zero, Nat.zero_le, Nat.one_ne_zero, Nat.succ_ne_zero,  lt_def, i32_lit, reduceIte, P_isIn_eq, M_isIn_eq, M_goes_eq, or_false, false_or, or_true, true_or, and_true, true_and, and_false, false_and, not_true, not_false_eq_true, eq_self, if_true, if_false, not_or, not_and, Nat.not_lt, Nat.not_le, t2, io_le, Nat.le_refl]
  | succ k ih =>
    intro n i hi hn hm
    obtain ⟨n, rfl⟩ : ∃ n', n = n' + 1 := ⟨n - 1, by omega⟩
    have hlt : i < vs.length := by omega
    have h1 : ¬ vs.length ≤ i := by omega
    have h2 : ¬ 100 ≤ i := by omega
    have es := t3 i hlt
    have hv := t4 vs[i] (List.getElem_mem hlt)
    have hle := tv_le hv
    have hio := tv_io hv
    have h3 : ¬ 2001 ≤ tv vs[i] := by omega
    have ht := t5 (tv vs[i]) (by omega)
    have hct := vct_le vs (tv vs[i])
    have eg : vs.getD i 0 = vs[i] := by rw [List.getD_eq_getElem?_getD, List.getElem?_eq_getElem hlt]; rfl
    have h4 := ih n (i + 1) (by omega) (by omega)
    rw [vmo, eg] at h4
    by_cases hc : (vmo vs i).1 < vct vs (tv vs[i])
    · rw [if_pos hc] at h4
      have hc' : ¬ vct vs (tv vs[i]) ≤ (vmo vs i).1 := by omega
      simp (disch := omega) only [f_Tally_mostOftenr_b7, Option.bind_some, Nat.reduceEqDiff, Nat.add_zero, Nat.zero_add, Nat.reduceLT, Nat.reduceLeDiff, Nat.reduceAdd, Nat.reduceSub, Nat.reduceMul, Nat.reduceDiv, Nat.lt_irrefl, Nat.not_lt_zero, Nat.zero_le, Nat.one_ne_zero, Nat.succ_ne_zero,  lt_def, i32_lit, reduceIte, P_isIn_eq, M_isIn_eq, M_goes_eq, or_false, false_or, or_true, true_or, and_true, true_and, and_false, false_and, not_true, not_false_eq_true, eq_self, if_true, if_false, not_or, not_and, Nat.not_lt, Nat.not_le, t2, io_le, h1, h2, ix_io, es, hio, io_lt, h3, ht, hc', io_add]
      exact h4 (by show vct vs (tv vs[i]) ≤ 100; omega)
    · rw [if_neg hc] at h4
      have hc' : vct vs (tv vs[i]) ≤ (vmo vs i).1 := by omega
      simp (disch := omega) only [f_Tally_mostOftenr_b7, Option.bind_some, Nat.reduceEqDiff, Nat.add_zero, Nat.zero_add, Nat.reduceLT, Nat.reduceLeDiff, Nat.reduceAdd, Nat.reduceSub, Nat.reduceMul, Nat.reduceDiv, Nat.lt_irrefl, Nat.not_lt_zero, Nat.zero_le, Nat.one_ne_zero, Nat.succ_ne_zero,  lt_def, i32_lit, reduceIte, P_isIn_eq, M_isIn_eq, M_goes_eq, or_false, false_or, or_true, true_or, and_true, true_and, and_false, false_and, not_true, not_false_eq_true, eq_self, if_true, if_false, not_or, not_and, Nat.not_lt, Nat.not_le, t2, io_le, h1, h2, ix_io, es, hio, io_lt, h3, ht, hc', io_add]
      exact h4 hm
theorem result_eqr {F k : Nat} (hF : 5000 ≤ F) (hk : k < 2147483648) {s : St} {vs : List Int32} (T : TSr s vs) : f_Tally_resultr F s (io k) = some (vag k vs, s) := by
  have hl := T.1.1
  obtain ⟨T0, u1, u2, u3, u4⟩ := T
  have hm := most_loopr (F := F) T0 vs.length F 0 (by omega) (by omega) (Nat.zero_le _)
  have e2 := T0.2.1
  unfold vag
  by_cases k1 : k = 100
  · subst k1; simp (disch := omega) only [f_Tally_resultr, Option.bind_some, Nat.reduceEqDiff, Nat.add_zero, Nat.zero_add, Nat.reduceLT, Nat.reduceLeDiff, Nat.reduceAdd, Nat.reduceSub, Nat.reduceMul, Nat.reduceDiv, Nat.lt_irrefl, Nat.not_lt_zero, Nat.zero_le, Nat.one_ne_zero, Nat.succ_ne_zero,  lt_def, i32_lit, reduceIte, P_isIn_eq, M_isIn_eq, M_goes_eq, or_false, false_or, or_true, true_or, and_true, true_and, and_false, false_and, not_true, not_false_eq_true, eq_self, if_true, if_false, not_or, not_and, Nat.not_lt, Nat.not_le, u4]
  · by_cases k2 : k = 109
    · subst k2; simp (disch := omega) only [f_Tally_resultr, Option.bind_some, Nat.reduceEqDiff, Nat.add_zero, Nat.zero_add, Nat.reduceLT, Nat.reduceLeDiff, Nat.reduceAdd, Nat.reduceSub, Nat.reduceMul, Nat.reduceDiv, Nat.lt_irrefl, Nat.not_lt_zero, Nat.zero_le, Nat.one_ne_zero, Nat.succ_ne_zero,  lt_def, i32_lit, reduceIte, P_isIn_eq, M_isIn_eq, M_goes_eq, or_false, false_or, or_true, true_or, and_true, true_and, and_false, false_and, not_true, not_false_eq_true, eq_self, if_true, if_false, not_or, not_and, Nat.not_lt, Nat.not_le, io_eq, u2]
    · by_cases k3 : k = 110
      · subst k3; simp (disch := omega) only [f_Tally_resultr, Option.bind_some, Nat.reduceEqDiff, Nat.add_zero, Nat.zero_add, Nat.reduceLT, Nat.reduceLeDiff, Nat.reduceAdd, Nat.reduceSub, Nat.reduceMul, Nat.reduceDiv, Nat.lt_irrefl, Nat.not_lt_zero, Nat.zero_le, Nat.one_ne_zero, Nat.succ_ne_zero,  lt_def, i32_lit, reduceIte, P_isIn_eq, M_isIn_eq, M_goes_eq, or_false, false_or, or_true, true_or, and_true, true_and, and_false, false_and, not_true, not_false_eq_true, eq_self, if_true, if_false, not_or, not_and, Nat.not_lt, Nat.not_le, io_eq, e2]
      · by_cases k4 : k = 115
        · subst k4; simp (disch := omega) only [f_Tally_resultr, Option.bind_some, Nat.reduceEqDiff, Nat.add_zero, Nat.zero_add, Nat.reduceLT, Nat.reduceLeDiff, Nat.reduceAdd, Nat.reduceSub, Nat.reduceMul, Nat.reduceDiv, Nat.lt_irrefl, Nat.not_lt_zero, Nat.zero_le, Nat.one_ne_zero, Nat.succ_ne_zero,  lt_def, i32_lit, reduceIte, P_isIn_eq, M_isIn_eq, M_goes_eq, or_false, false_or, or_true, true_or, and_true, true_and, and_false, false_and, not_true, not_false_eq_true, eq_self, if_true, if_false, not_or, not_and, Nat.not_lt, Nat.not_le, io_eq, u1]
        · by_cases k5 : k = 116
          · subst k5
            have hm' : f_Tally_mostOftenr F s = some ((vmo vs vs.length).2, s) := hm
            simp (disch := omega) only [f_Tally_resultr, Option.bind_some, Nat.reduceEqDiff, Nat.add_zero, Nat.zero_add, Nat.reduceLT, Nat.reduceLeDiff, Nat.reduceAdd, Nat.reduceSub, Nat.reduceMul, Nat.reduceDiv, Nat.lt_irrefl, Nat.not_lt_zero, Nat.zero_le, Nat.one_ne_zero, Nat.succ_ne_zero,  lt_def, i32_lit, reduceIte, P_isIn_eq, M_isIn_eq, M_goes_eq, or_false, false_or, or_true, true_or, and_true, true_and, and_false, false_and, not_true, not_false_eq_true, eq_self, if_true, if_false, not_or, not_and, Nat.not_lt, Nat.not_le, io_eq, hm']
          · by_cases k6 : k = 120
            · subst k6; simp (disch := omega) only [f_Tally_resultr, Option.bind_some, Nat.reduceEqDiff, Nat.add_zero, Nat.zero_add, Nat.reduceLT, Nat.reduceLeDiff, Nat.reduceAdd, Nat.reduceSub, Nat.reduceMul, Nat.reduceDiv, Nat.lt_irrefl, Nat.not_lt_zero, Nat.zero_le, Nat.one_ne_zero, Nat.succ_ne_zero,  lt_def, i32_lit, reduceIte, P_isIn_eq, M_isIn_eq, M_goes_eq, or_false, false_or, or_true, true_or, and_true, true_and, and_false, false_and, not_true, not_false_eq_true, eq_self, if_true, if_false, not_or, not_and, Nat.not_lt, Nat.not_le, io_eq, u3]
            · simp (disch := omega) only [f_Tally_resultr, Option.bind_some, Nat.reduceEqDiff, Nat.add_zero, Nat.zero_add, Nat.reduceLT, Nat.reduceLeDiff, Nat.reduceAdd, Nat.reduceSub, Nat.reduceMul, Nat.reduceDiv, Nat.lt_irrefl, Nat.not_lt_zero, Nat.zero_le, Nat.one_ne_zero, Nat.succ_ne_zero,  lt_def, i32_lit, reduceIte, P_isIn_eq, M_isIn_eq, M_goes_eq, or_false, false_or, or_true, true_or, and_true, true_and, and_false, false_and, not_true, not_false_eq_true, eq_self, if_true, if_false, not_or, not_and, Nat.not_lt, Nat.not_le, io_eq, k1, k2, k3, k4, k5, k6]
