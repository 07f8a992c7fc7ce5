/-! the model's aggregate -/
theorem i64_1 {a : Nat} (h : a < 1000000) : (io a).toInt64 + 1 = (io (a + 1)).toInt64 := by
  rw [← Int64.toInt_inj, Int64.toInt_add, Int32.toInt_toInt64, Int32.toInt_toInt64, io_toInt (by omega), io_toInt (by omega)]
  rw [show (1 : Int64).toInt = 1 by decide]
  rw [Int.bmod_eq_of_le (by omega) (by omega)]
  rfl
theorem i64_0 (x : Int64) : x + 0 = x := Int64.add_zero x
/-- the aggregates by number, by sign -/
def ksg (w : Nat) : Nat := if w = 0 then 110 else if w = 1 then 115 else if w = 2 then 109 else if w = 3 then 120 else if w = 4 then 100 else 116
def VS (ch : Nat → Bool) (val : Nat → Int32) (k : Nat) : List Int32 := ((List.range k).filter ch).map val
theorem VS_t {ch : Nat → Bool} {val : Nat → Int32} {k : Nat} (h : ch k = true) : VS ch val (k + 1) = VS ch val k ++ [val k] := by
  unfold VS
  rw [List.range_succ, List.filter_append, List.filter_cons_of_pos h, List.filter_nil, List.map_append]
  rfl
theorem VS_f {ch : Nat → Bool} {val : Nat → Int32} {k : Nat} (h : ¬ ch k = true) : VS ch val (k + 1) = VS ch val k := by
  unfold VS
  rw [List.range_succ, List.filter_append, List.filter_cons_of_neg h, List.filter_nil, List.append_nil]
theorem VS_len {ch : Nat → Bool} {val : Nat → Int32} (k : Nat) : (VS ch val k).length ≤ k := by
  induction k with
  | zero => exact Nat.le_refl _
  | succ k ih =>
    by_cases h : ch k = true
    · rw [VS_t h, List.length_append]; show _ + 1 ≤ _; omega
    · rw [VS_f h]; omega
theorem VS_pre {ch : Nat → Bool} {val : Nat → Int32} {k m : Nat} (h : k ≤ m) : ∃ r, VS ch val m = VS ch val k ++ r := by
  induction m with
  | zero => exact ⟨[], by rw [show k = 0 by omega, List.append_nil]⟩
  | succ m ih =>
    by_cases e : k = m + 1
    · exact ⟨[], by rw [e, List.append_nil]⟩
    · obtain ⟨r, hr⟩ := ih (by omega)
      by_cases h : ch m = true
      · exact ⟨r ++ [val m], by rw [VS_t h, hr, List.append_assoc]⟩
      · exact ⟨r, by rw [VS_f h, hr]⟩
theorem VS_at {ch : Nat → Bool} {val : Nat → Int32} {k m : Nat} (hk : k < m) (h : ch k = true) : (VS ch val m).getD (VS ch val k).length 0 = val k ∧ (VS ch val k).length < (VS ch val m).length := by
  obtain ⟨r, hr⟩ := VS_pre (ch := ch) (val := val) (show k + 1 ≤ m from hk)
  rw [hr, VS_t h, List.append_assoc]
  refine ⟨?_, ?_⟩
  · rw [List.getD_eq_getElem?_getD, List.getElem?_append_right (Nat.le_refl _)]; simp
  · rw [List.length_append, List.length_append]; show _ < _ + (1 + r.length); omega
theorem vmo_ge (vs : List Int32) : ∀ i j, j < i → vct vs (tv (vs.getD j 0)) ≤ (vmo vs i).1 := by
  intro i
  induction i with
  | zero => intro j hj; omega
  | succ i ih =>
    intro j hj
    rw [vmo]
    by_cases e : j = i
    · subst e
      by_cases h : (vmo vs j).1 < vct vs (tv (vs.getD j 0))
      · rw [if_pos h]; exact Nat.le_refl _
      · rw [if_neg h]; omega
    · have h1 := ih j (by omega)
      by_cases h : (vmo vs i).1 < vct vs (tv (vs.getD i 0))
      · rw [if_pos h]; show _ ≤ vct _ _; omega
      · rw [if_neg h]; exact h1
theorem vmo_le (vs : List Int32) : ∀ i, (vmo vs i).1 ≤ vs.length := by
  intro i
  induction i with
  | zero => exact Nat.zero_le _
  | succ i ih =>
    rw [vmo]
    by_cases h : (vmo vs i).1 < vct vs (tv (vs.getD i 0))
    · rw [if_pos h]; exact vct_le _ _
    · rw [if_neg h]; exact ih
/-- seen before: it is no more often than the most often one -/
theorem vmo_old {ch : Nat → Bool} {val : Nat → Int32} {k m : Nat} (hk : k < m) (h : ch k = true) (ho : ¬ vct (VS ch val k) (tv (val k)) = 0) : vmo (VS ch val m) ((VS ch val k).length + 1) = vmo (VS ch val m) (VS ch val k).length := by
  obtain ⟨e1, e2⟩ := VS_at (val := val) hk h
  rw [vmo, e1, if_neg]
  obtain ⟨r, hr⟩ := VS_pre (ch := ch) (val := val) (show k ≤ m by omega)
  have h1 : 0 < vct (VS ch val k) (tv (val k)) := by omega
  unfold vct at h1
  rw [List.countP_pos_iff] at h1
  obtain ⟨v, hv, hv2⟩ := h1
  obtain ⟨j, hj, ej⟩ := List.getElem_of_mem hv
  have h2 := vmo_ge (VS ch val m) (VS ch val k).length j hj
  have h3 : (VS ch val m).getD j 0 = v := by
    rw [hr, List.getD_eq_getElem?_getD, List.getElem?_append_left hj, List.getElem?_eq_getElem hj, ej]; rfl
  rw [h3, of_decide_eq_true hv2] at h2
  omega
theorem times_loop {F m : Nat} {s0 : St} {ch : Nat → Bool} {val : Nat → Int32} {pg its : Int32} {wh : Nat} (hwh : (its >>> (io 3 &&& io 31)) &&& io 7 = io wh) (hm : m ≤ 100)
    (hch : ∀ s, Fr [] [51] s0 s → ∀ k, k < m → ∃ s', f_M_isChosen F s pg its (io k) = some (if ch k then io 1 else io 0, s') ∧ Fr [] [51] s s' ∧ gJ s' = gJ s)
    (hval : ∀ s, Fr [] [51] s0 s → ∀ k, k < m → f_M_fieldIn F s (io k) (io wh) = some (val k, s)) (hok : ∀ k, k < m → vok (val k)) {v : Int32} (hv : vok v) {e : Nat} (he : e ≤ m) :
    ∀ (d n k : Nat) (s : St), k + d = e → d < n → Fr [] [51] s0 s → ∃ s', f_M_times_b6 F n s pg its v (io e) (io (vct (VS ch val k) (tv v))) (io k) = some (io (vct (VS ch val e) (tv v)), s') ∧ Fr [] [51] s s' ∧ gJ s' = gJ s := by
  intro d
  induction d with
  | zero =>
    intro n k s hk hn f
    obtain ⟨n, rfl⟩ : ∃ n', n = n' + 1 := ⟨n - 1, by omega⟩
    have hk' : k = e := by omega
    subst hk'
    refine ⟨s, ?_, Fr.rf, rfl⟩
    simp (disch := omega) only [f_M_times_b6, Option.bind_some, Nat.reduceEqDiff, Nat.add_zero, Nat.zero_add, Nat.reduceLT, Nat.reduceLeDiff, Nat.reduceAdd, Nat.reduceSub, Nat.reduceMul, Nat.reduceDiv, Nat.lt_irrefl, Nat.not_lt_zero, Nat.zero_le, Nat.one_ne_zero, Nat.succ_ne_zero,  lt_def, i32_lit, reduceIte, P_isIn_eq, M_isIn_eq, M_goes_eq, or_false, false_or, or_true, true_or, and_true, true_and, and_false, false_and, not_true, not_false_eq_true, eq_self, if_true, if_false, not_or, not_and, Nat.not_lt, Nat.not_le, io_le, Nat.le_refl]
  | succ d ih =>
    intro n k s hk hn f
    obtain ⟨n, rfl⟩ : ∃ n', n = n' + 1 := ⟨n - 1, by omega⟩
    have h1 : ¬ e ≤ k := by omega
    obtain ⟨s1, c1, c2, c3⟩ := hch s f k (by omega)
    obtain ⟨s2, d1, d2, d3⟩ := ih n (k + 1) s1 (by omega) (by omega) (f.trans c2)
    refine ⟨s2, ?_, c2.trans d2, d3.trans c3⟩
    by_cases hc : ch k = true
    · rw [if_pos hc] at c1
      rw [VS_t hc, vct_snoc] at d1
      have hf := hval s1 (f.trans c2) k (by omega)
      by_cases hvk : val k = v
      · rw [if_pos (by rw [hvk])] at d1
        simp (disch := omega) only [f_M_times_b6, Option.bind_some, Nat.reduceEqDiff, Nat.add_zero, Nat.zero_add, Nat.reduceLT, Nat.reduceLeDiff, Nat.reduceAdd, Nat.reduceSub, Nat.reduceMul, Nat.reduceDiv, Nat.lt_irrefl, Nat.not_lt_zero, Nat.zero_le, Nat.one_ne_zero, Nat.succ_ne_zero,  lt_def, i32_lit, reduceIte, P_isIn_eq, M_isIn_eq, M_goes_eq, or_false, false_or, or_true, true_or, and_true, true_and, and_false, false_and, not_true, not_false_eq_true, eq_self, if_true, if_false, not_or, not_and, Nat.not_lt, Nat.not_le, io_le, h1, c1, io_eq, hwh, hf, hvk, io_add]
        exact d1
      · rw [if_neg (fun e => hvk (tv_inj (hok k (by omega)) hv e)), Nat.add_zero] at d1
        simp (disch := omega) only [f_M_times_b6, Option.bind_some, Nat.reduceEqDiff, Nat.add_zero, Nat.zero_add, Nat.reduceLT, Nat.reduceLeDiff, Nat.reduceAdd, Nat.reduceSub, Nat.reduceMul, Nat.reduceDiv, Nat.lt_irrefl, Nat.not_lt_zero, Nat.zero_le, Nat.one_ne_zero, Nat.succ_ne_zero,  lt_def, i32_lit, reduceIte, P_isIn_eq, M_isIn_eq, M_goes_eq, or_false, false_or, or_true, true_or, and_true, true_and, and_false, false_and, not_true, not_false_eq_true, eq_self, if_true, if_false, not_or, not_and, Nat.not_lt, Nat.not_le, io_le, h1, c1, io_eq, hwh, hf, hvk, io_add]
        exact d1
    · rw [if_neg hc] at c1
      rw [VS_f hc] at d1
      simp (disch := omega) only [f_M_times_b6, Option.bind_some, Nat.reduceEqDiff, Nat.add_zero, Nat.zero_add, Nat.reduceLT, Nat.reduceLeDiff, Nat.reduceAdd, Nat.reduceSub, Nat.reduceMul, Nat.reduceDiv, Nat.lt_irrefl, Nat.not_lt_zero, Nat.zero_le, Nat.one_ne_zero, Nat.succ_ne_zero,  lt_def, i32_lit, reduceIte, P_isIn_eq, M_isIn_eq, M_goes_eq, or_false, false_or, or_true, true_or, and_true, true_and, and_false, false_and, not_true, not_false_eq_true, eq_self, if_true, if_false, not_or, not_and, Nat.not_lt, Nat.not_le, io_le, h1, c1, io_eq, io_add]
      exact d1
def tld (ch : Nat → Bool) (val : Nat → Int32) (m w k : Nat) : Int64 := if w = 0 then (io (VS ch val k).length).toInt64 else if w = 1 then vsum (VS ch val k) else if w = 2 then (vlo (VS ch val k)).toInt64 else if w = 3 then (vhi (VS ch val k)).toInt64 else if w = 4 then (io (vdst (VS ch val k))).toInt64 else (vmo (VS ch val m) (VS ch val k).length).2
def mst (ch : Nat → Bool) (val : Nat → Int32) (m w k : Nat) : Nat := if w = 5 then (vmo (VS ch val m) (VS ch val k).length).1 else 0
theorem tld_end {ch : Nat → Bool} {val : Nat → Int32} {m w : Nat} (hw : w ≤ 5) : tld ch val m w m = vag (ksg w) (VS ch val m) := by
  rcases (by omega : w = 0 ∨ w = 1 ∨ w = 2 ∨ w = 3 ∨ w = 4 ∨ w = 5) with rfl | rfl | rfl | rfl | rfl | rfl <;> simp only [tld, vag, ksg, if_true, if_false, Option.bind_some, Nat.reduceEqDiff, Nat.add_zero, Nat.zero_add, Nat.reduceLT, Nat.reduceLeDiff, Nat.reduceAdd, Nat.reduceSub, Nat.reduceMul, Nat.reduceDiv, Nat.lt_irrefl, Nat.not_lt_zero, Nat.zero_le, Nat.one_ne_zero, Nat.succ_ne_zero,  lt_def, i32_lit, reduceIte, P_isIn_eq, M_isIn_eq, M_goes_eq, or_false, false_or, or_true, true_or, and_true, true_and, and_false, false_and, not_true, not_false_eq_true, eq_self, if_true, if_false, not_or, not_and, Nat.not_lt, Nat.not_le]
theorem tld0 {ch : Nat → Bool} {val : Nat → Int32} {m k : Nat} (hc : ch k = true) (hk : k < 1000) : tld ch val m 0 (k + 1) = tld ch val m 0 k + 1 := by
  have h := VS_len (ch := ch) (val := val) k
  unfold tld
  rw [if_pos rfl, if_pos rfl, VS_t hc, List.length_append, i64_1 (by omega)]
  rfl
theorem tld1 {ch : Nat → Bool} {val : Nat → Int32} {m k : Nat} (hc : ch k = true) : tld ch val m 1 (k + 1) = tld ch val m 1 k + (val k).toInt64 := by
  show vsum (VS ch val (k + 1)) = vsum (VS ch val k) + _
  rw [VS_t hc, vsum_snoc]
theorem tld2 {ch : Nat → Bool} {val : Nat → Int32} {m k : Nat} (hc : ch k = true) : tld ch val m 2 (k + 1) = if (VS ch val k).length = 0 then (val k).toInt64 else if tld ch val m 2 k ≤ (val k).toInt64 then tld ch val m 2 k else (val k).toInt64 := by
  show (vlo (VS ch val (k + 1))).toInt64 = if _ then _ else if (vlo (VS ch val k)).toInt64 ≤ _ then (vlo (VS ch val k)).toInt64 else _
  rw [VS_t hc, vlo_snoc]
  by_cases h0 : (VS ch val k).length = 0
  · rw [if_pos h0, if_pos h0]
  · rw [if_neg h0, if_neg h0]
    by_cases hlt : val k < vlo (VS ch val k)
    · rw [if_pos hlt, if_neg (by rw [Int32.toInt64_le, i32_nle]; exact hlt)]
    · rw [if_neg hlt, if_pos (by rw [Int32.toInt64_le, ← i32_nlt]; exact hlt)]
theorem tld3 {ch : Nat → Bool} {val : Nat → Int32} {m k : Nat} (hc : ch k = true) : tld ch val m 3 (k + 1) = if (VS ch val k).length = 0 then (val k).toInt64 else if (val k).toInt64 ≤ tld ch val m 3 k then tld ch val m 3 k else (val k).toInt64 := by
  show (vhi (VS ch val (k + 1))).toInt64 = if _ then _ else if _ ≤ (vhi (VS ch val k)).toInt64 then (vhi (VS ch val k)).toInt64 else _
  rw [VS_t hc, vhi_snoc]
  by_cases h0 : (VS ch val k).length = 0
  · rw [if_pos h0, if_pos h0]
  · rw [if_neg h0, if_neg h0]
    by_cases hlt : vhi (VS ch val k) < val k
    · rw [if_pos hlt, if_neg (by rw [Int32.toInt64_le, i32_nle]; exact hlt)]
    · rw [if_neg hlt, if_pos (by rw [Int32.toInt64_le, ← i32_nlt]; exact hlt)]
theorem tld4 {ch : Nat → Bool} {val : Nat → Int32} {m k : Nat} (hc : ch k = true) (hk : k < 1000) : tld ch val m 4 (k + 1) = if vct (VS ch val k) (tv (val k)) = 0 then tld ch val m 4 k + 1 else tld ch val m 4 k + 0 := by
  have h := VS_len (ch := ch) (val := val) k
  have hd := vdst_le (VS ch val k)
  show (io (vdst (VS ch val (k + 1)))).toInt64 = if _ then (io (vdst (VS ch val k))).toInt64 + 1 else (io (vdst (VS ch val k))).toInt64 + 0
  rw [VS_t hc, vdst_snoc]
  by_cases h0 : vct (VS ch val k) (tv (val k)) = 0
  · rw [if_pos h0, if_pos h0, i64_1 (by omega)]
  · rw [if_neg h0, if_neg h0, i64_0, Nat.add_zero]
theorem tld_5 {ch : Nat → Bool} {val : Nat → Int32} {m k : Nat} : tld ch val m 5 k = (vmo (VS ch val m) (VS ch val k).length).2 := rfl
theorem mst_5 {ch : Nat → Bool} {val : Nat → Int32} {m k : Nat} : mst ch val m 5 k = (vmo (VS ch val m) (VS ch val k).length).1 := rfl
theorem mst5le {ch : Nat → Bool} {val : Nat → Int32} (m k : Nat) : mst ch val m 5 k ≤ m := by
  rw [mst_5]; exact Nat.le_trans (vmo_le _ _) (VS_len _)
theorem len_t {ch : Nat → Bool} {val : Nat → Int32} {k : Nat} (hc : ch k = true) : (VS ch val (k + 1)).length = (VS ch val k).length + 1 := by rw [VS_t hc, List.length_append]; rfl
theorem tld5a {ch : Nat → Bool} {val : Nat → Int32} {m k : Nat} (hk : k < m) (hc : ch k = true) : tld ch val m 5 (k + 1) = if mst ch val m 5 k < vct (VS ch val m) (tv (val k)) then (val k).toInt64 else tld ch val m 5 k := by
  rw [tld_5, mst_5, tld_5, len_t hc, vmo, (VS_at (val := val) hk hc).1]
  by_cases h : (vmo (VS ch val m) (VS ch val k).length).1 < vct (VS ch val m) (tv (val k))
  · rw [if_pos h, if_pos h]
  · rw [if_neg h, if_neg h]
theorem mst5a {ch : Nat → Bool} {val : Nat → Int32} {m k : Nat} (hk : k < m) (hc : ch k = true) : mst ch val m 5 (k + 1) = if mst ch val m 5 k < vct (VS ch val m) (tv (val k)) then vct (VS ch val m) (tv (val k)) else mst ch val m 5 k := by
  rw [mst_5, mst_5, len_t hc, vmo, (VS_at (val := val) hk hc).1]
  by_cases h : (vmo (VS ch val m) (VS ch val k).length).1 < vct (VS ch val m) (tv (val k))
  · rw [if_pos h, if_pos h]
  · rw [if_neg h, if_neg h]
theorem tld5b {ch : Nat → Bool} {val : Nat → Int32} {m k : Nat} (hk : k < m) (hc : ch k = true) (h0 : ¬ vct (VS ch val k) (tv (val k)) = 0) : tld ch val m 5 (k + 1) = tld ch val m 5 k := by
  rw [tld_5, tld_5, len_t hc, vmo_old hk hc h0]
theorem mst5b {ch : Nat → Bool} {val : Nat → Int32} {m k : Nat} (hk : k < m) (hc : ch k = true) (h0 : ¬ vct (VS ch val k) (tv (val k)) = 0) : mst ch val m 5 (k + 1) = mst ch val m 5 k := by
  rw [mst_5, mst_5, len_t hc, vmo_old hk hc h0]
theorem mst_n {ch : Nat → Bool} {val : Nat → Int32} {m w k : Nat} (hw : w ≠ 5) : mst ch val m w k = 0 := if_neg hw
theorem VS_0 {ch : Nat → Bool} {val : Nat → Int32} : VS ch val 0 = [] := rfl
theorem vct_0 (x : Nat) : vct [] x = 0 := rfl
theorem times_eq {F : Nat} {s : St} {pg its v e : Int32} : f_M_times F s pg its v e = f_M_times_b6 F F s pg its v e (io 0) (io 0) := rfl
theorem agg_w0 {F n m k L M wh : Nat} {s s1 : St} {pg its v : Int32} {t : Int64} (e : gI s 2527 = io m) (h1 : ¬ m ≤ k) (hm : m ≤ 100) (hL : L ≤ 100) (hM : M ≤ 100) (c1 : f_M_isChosen F s pg its (io k) = some (io 1, s1)) (hf : f_M_fieldIn F s1 (io k) (io wh) = some (v, s1)) : f_M_aggregate_b25 F (n + 1) s pg its (io 0) (io wh) t (io L) (io M) (io k) = f_M_aggregate_b25 F n s1 pg its (io 0) (io wh) (t + 1) (io (L + 1)) (io M) (io (k + 1)) := by
  simp (disch := omega) only [f_M_aggregate_b25, f_M_aggregate_b78, f_M_aggregate_b106, f_M_aggregate_b219, Option.bind_some, Nat.reduceEqDiff, Nat.add_zero, Nat.zero_add, Nat.reduceLT, Nat.reduceLeDiff, Nat.reduceAdd, Nat.reduceSub, Nat.reduceMul, Nat.reduceDiv, Nat.lt_irrefl, Nat.not_lt_zero, Nat.zero_le, Nat.one_ne_zero, Nat.succ_ne_zero,  lt_def, i32_lit, reduceIte, P_isIn_eq, M_isIn_eq, M_goes_eq, or_false, false_or, or_true, true_or, and_true, true_and, and_false, false_and, not_true, not_false_eq_true, eq_self, if_true, if_false, not_or, not_and, Nat.not_lt, Nat.not_le, e, io_le, h1, c1, io_eq, hf, io_add]
theorem agg_w1 {F n m k L M wh : Nat} {s s1 : St} {pg its v : Int32} {t : Int64} (e : gI s 2527 = io m) (h1 : ¬ m ≤ k) (hm : m ≤ 100) (hL : L ≤ 100) (hM : M ≤ 100) (c1 : f_M_isChosen F s pg its (io k) = some (io 1, s1)) (hf : f_M_fieldIn F s1 (io k) (io wh) = some (v, s1)) : f_M_aggregate_b25 F (n + 1) s pg its (io 1) (io wh) t (io L) (io M) (io k) = f_M_aggregate_b25 F n s1 pg its (io 1) (io wh) (t + v.toInt64) (io (L + 1)) (io M) (io (k + 1)) := by
  simp (disch := omega) only [f_M_aggregate_b25, f_M_aggregate_b78, f_M_aggregate_b106, f_M_aggregate_b219, Option.bind_some, Nat.reduceEqDiff, Nat.add_zero, Nat.zero_add, Nat.reduceLT, Nat.reduceLeDiff, Nat.reduceAdd, Nat.reduceSub, Nat.reduceMul, Nat.reduceDiv, Nat.lt_irrefl, Nat.not_lt_zero, Nat.zero_le, Nat.one_ne_zero, Nat.succ_ne_zero,  lt_def, i32_lit, reduceIte, P_isIn_eq, M_isIn_eq, M_goes_eq, or_false, false_or, or_true, true_or, and_true, true_and, and_false, false_and, not_true, not_false_eq_true, eq_self, if_true, if_false, not_or, not_and, Nat.not_lt, Nat.not_le, e, io_le, h1, c1, io_eq, hf, io_add]
theorem agg_w2 {F n m k L M wh : Nat} {s s1 : St} {pg its v : Int32} {t : Int64} (e : gI s 2527 = io m) (h1 : ¬ m ≤ k) (hm : m ≤ 100) (hL : L ≤ 100) (hM : M ≤ 100) (c1 : f_M_isChosen F s pg its (io k) = some (io 1, s1)) (hf : f_M_fieldIn F s1 (io k) (io wh) = some (v, s1)) : f_M_aggregate_b25 F (n + 1) s pg its (io 2) (io wh) t (io L) (io M) (io k) = f_M_aggregate_b25 F n s1 pg its (io 2) (io wh) (if L = 0 then v.toInt64 else if t ≤ v.toInt64 then t else v.toInt64) (io (L + 1)) (io M) (io (k + 1)) := by
  by_cases h0 : L = 0
  · subst h0; simp (disch := omega) only [f_M_aggregate_b25, f_M_aggregate_b78, f_M_aggregate_b106, f_M_aggregate_b219, Option.bind_some, Nat.reduceEqDiff, Nat.add_zero, Nat.zero_add, Nat.reduceLT, Nat.reduceLeDiff, Nat.reduceAdd, Nat.reduceSub, Nat.reduceMul, Nat.reduceDiv, Nat.lt_irrefl, Nat.not_lt_zero, Nat.zero_le, Nat.one_ne_zero, Nat.succ_ne_zero,  lt_def, i32_lit, reduceIte, P_isIn_eq, M_isIn_eq, M_goes_eq, or_false, false_or, or_true, true_or, and_true, true_and, and_false, false_and, not_true, not_false_eq_true, eq_self, if_true, if_false, not_or, not_and, Nat.not_lt, Nat.not_le, e, io_le, h1, c1, io_eq, hf, io_add]
  · by_cases h5 : t ≤ v.toInt64
    · simp (disch := omega) only [f_M_aggregate_b25, f_M_aggregate_b78, f_M_aggregate_b106, f_M_aggregate_b219, Option.bind_some, Nat.reduceEqDiff, Nat.add_zero, Nat.zero_add, Nat.reduceLT, Nat.reduceLeDiff, Nat.reduceAdd, Nat.reduceSub, Nat.reduceMul, Nat.reduceDiv, Nat.lt_irrefl, Nat.not_lt_zero, Nat.zero_le, Nat.one_ne_zero, Nat.succ_ne_zero,  lt_def, i32_lit, reduceIte, P_isIn_eq, M_isIn_eq, M_goes_eq, or_false, false_or, or_true, true_or, and_true, true_and, and_false, false_and, not_true, not_false_eq_true, eq_self, if_true, if_false, not_or, not_and, Nat.not_lt, Nat.not_le, e, io_le, h1, c1, io_eq, hf, io_add, h0, h5]
    · simp (disch := omega) only [f_M_aggregate_b25, f_M_aggregate_b78, f_M_aggregate_b106, f_M_aggregate_b219, Option.bind_some, Nat.reduceEqDiff, Nat.add_zero, Nat.zero_add, Nat.reduceLT, Nat.reduceLeDiff, Nat.reduceAdd, Nat.reduceSub, Nat.reduceMul, Nat.reduceDiv, Nat.lt_irrefl, Nat.not_lt_zero, Nat.zero_le, Nat.one_ne_zero, Nat.succ_ne_zero,  lt_def, i32_lit, reduceIte, P_isIn_eq, M_isIn_eq, M_goes_eq, or_false, false_or, or_true, true_or, and_true, true_and, and_false, false_and, not_true, not_false_eq_true, eq_self, if_true, if_false, not_or, not_and, Nat.not_lt, Nat.not_le, e, io_le, h1, c1, io_eq, hf, io_add, h0, h5]
theorem agg_w3 {F n m k L M wh : Nat} {s s1 : St} {pg its v : Int32} {t : Int64} (e : gI s 2527 = io m) (h1 : ¬ m ≤ k) (hm : m ≤ 100) (hL : L ≤ 100) (hM : M ≤ 100) (c1 : f_M_isChosen F s pg its (io k) = some (io 1, s1)) (hf : f_M_fieldIn F s1 (io k) (io wh) = some (v, s1)) : f_M_aggregate_b25 F (n + 1) s pg its (io 3) (io wh) t (io L) (io M) (io k) = f_M_aggregate_b25 F n s1 pg its (io 3) (io wh) (if L = 0 then v.toInt64 else if v.toInt64 ≤ t then t else v.toInt64) (io (L + 1)) (io M) (io (k + 1)) := by
  by_cases h0 : L = 0
  · subst h0; simp (disch := omega) only [f_M_aggregate_b25, f_M_aggregate_b78, f_M_aggregate_b106, f_M_aggregate_b219, Option.bind_some, Nat.reduceEqDiff, Nat.add_zero, Nat.zero_add, Nat.reduceLT, Nat.reduceLeDiff, Nat.reduceAdd, Nat.reduceSub, Nat.reduceMul, Nat.reduceDiv, Nat.lt_irrefl, Nat.not_lt_zero, Nat.zero_le, Nat.one_ne_zero, Nat.succ_ne_zero,  lt_def, i32_lit, reduceIte, P_isIn_eq, M_isIn_eq, M_goes_eq, or_false, false_or, or_true, true_or, and_true, true_and, and_false, false_and, not_true, not_false_eq_true, eq_self, if_true, if_false, not_or, not_and, Nat.not_lt, Nat.not_le, e, io_le, h1, c1, io_eq, hf, io_add]
  · by_cases h5 : v.toInt64 ≤ t
    · simp (disch := omega) only [f_M_aggregate_b25, f_M_aggregate_b78, f_M_aggregate_b106, f_M_aggregate_b219, Option.bind_some, Nat.reduceEqDiff, Nat.add_zero, Nat.zero_add, Nat.reduceLT, Nat.reduceLeDiff, Nat.reduceAdd, Nat.reduceSub, Nat.reduceMul, Nat.reduceDiv, Nat.lt_irrefl, Nat.not_lt_zero, Nat.zero_le, Nat.one_ne_zero, Nat.succ_ne_zero,  lt_def, i32_lit, reduceIte, P_isIn_eq, M_isIn_eq, M_goes_eq, or_false, false_or, or_true, true_or, and_true, true_and, and_false, false_and, not_true, not_false_eq_true, eq_self, if_true, if_false, not_or, not_and, Nat.not_lt, Nat.not_le, e, io_le, h1, c1, io_eq, hf, io_add, h0, h5]
    · simp (disch := omega) only [f_M_aggregate_b25, f_M_aggregate_b78, f_M_aggregate_b106, f_M_aggregate_b219, Option.bind_some, Nat.reduceEqDiff, Nat.add_zero, Nat.zero_add, Nat.reduceLT, Nat.reduceLeDiff, Nat.reduceAdd, Nat.reduceSub, Nat.reduceMul, Nat.reduceDiv, Nat.lt_irrefl, Nat.not_lt_zero, Nat.zero_le, Nat.one_ne_zero, Nat.succ_ne_zero,  lt_def, i32_lit, reduceIte, P_isIn_eq, M_isIn_eq, M_goes_eq, or_false, false_or, or_true, true_or, and_true, true_and, and_false, false_and, not_true, not_false_eq_true, eq_self, if_true, if_false, not_or, not_and, Nat.not_lt, Nat.not_le, e, io_le, h1, c1, io_eq, hf, io_add, h0, h5]
theorem agg_w4 {F n m k L M wh : Nat} {s s1 : St} {pg its v : Int32} {t : Int64} (e : gI s 2527 = io m) (h1 : ¬ m ≤ k) (hm : m ≤ 100) (hL : L ≤ 100) (hM : M ≤ 100) (c1 : f_M_isChosen F s pg its (io k) = some (io 1, s1)) (hf : f_M_fieldIn F s1 (io k) (io wh) = some (v, s1)) {s2 : St} {c : Nat} (hc : c ≤ 100) (t1 : f_M_times F s1 pg its v (io k) = some (io c, s2)) : f_M_aggregate_b25 F (n + 1) s pg its (io 4) (io wh) t (io L) (io M) (io k) = f_M_aggregate_b25 F n s2 pg its (io 4) (io wh) (if c = 0 then t + 1 else t + 0) (io (L + 1)) (io M) (io (k + 1)) := by
  by_cases h0 : c = 0
  · subst h0; simp (disch := omega) only [f_M_aggregate_b25, f_M_aggregate_b78, f_M_aggregate_b106, f_M_aggregate_b219, Option.bind_some, Nat.reduceEqDiff, Nat.add_zero, Nat.zero_add, Nat.reduceLT, Nat.reduceLeDiff, Nat.reduceAdd, Nat.reduceSub, Nat.reduceMul, Nat.reduceDiv, Nat.lt_irrefl, Nat.not_lt_zero, Nat.zero_le, Nat.one_ne_zero, Nat.succ_ne_zero,  lt_def, i32_lit, reduceIte, P_isIn_eq, M_isIn_eq, M_goes_eq, or_false, false_or, or_true, true_or, and_true, true_and, and_false, false_and, not_true, not_false_eq_true, eq_self, if_true, if_false, not_or, not_and, Nat.not_lt, Nat.not_le, e, io_le, h1, c1, io_eq, hf, io_add, t1]
  · simp (disch := omega) only [f_M_aggregate_b25, f_M_aggregate_b78, f_M_aggregate_b106, f_M_aggregate_b219, Option.bind_some, Nat.reduceEqDiff, Nat.add_zero, Nat.zero_add, Nat.reduceLT, Nat.reduceLeDiff, Nat.reduceAdd, Nat.reduceSub, Nat.reduceMul, Nat.reduceDiv, Nat.lt_irrefl, Nat.not_lt_zero, Nat.zero_le, Nat.one_ne_zero, Nat.succ_ne_zero,  lt_def, i32_lit, reduceIte, P_isIn_eq, M_isIn_eq, M_goes_eq, or_false, false_or, or_true, true_or, and_true, true_and, and_false, false_and, not_true, not_false_eq_true, eq_self, if_true, if_false, not_or, not_and, Nat.not_lt, Nat.not_le, e, io_le, h1, c1, io_eq, hf, io_add, t1, h0]
theorem agg_w5a {F n m k L M wh : Nat} {s s1 : St} {pg its v : Int32} {t : Int64} (e : gI s 2527 = io m) (h1 : ¬ m ≤ k) (hm : m ≤ 100) (hL : L ≤ 100) (hM : M ≤ 100) (c1 : f_M_isChosen F s pg its (io k) = some (io 1, s1)) (hf : f_M_fieldIn F s1 (io k) (io wh) = some (v, s1)) {s2 s3 : St} {c2 : Nat} (hc : c2 ≤ 100) (t1 : f_M_times F s1 pg its v (io k) = some (io 0, s2)) (e2 : gI s2 2527 = io m) (t4 : f_M_times F s2 pg its v (io m) = some (io c2, s3)) : f_M_aggregate_b25 F (n + 1) s pg its (io 5) (io wh) t (io L) (io M) (io k) = f_M_aggregate_b25 F n s3 pg its (io 5) (io wh) (if M < c2 then v.toInt64 else t) (io (L + 1)) (io (if M < c2 then c2 else M)) (io (k + 1)) := by
  by_cases h0 : M < c2
  · have h5 : ¬ c2 ≤ M := by omega
    simp (disch := omega) only [f_M_aggregate_b25, f_M_aggregate_b78, f_M_aggregate_b106, f_M_aggregate_b219, Option.bind_some, Nat.reduceEqDiff, Nat.add_zero, Nat.zero_add, Nat.reduceLT, Nat.reduceLeDiff, Nat.reduceAdd, Nat.reduceSub, Nat.reduceMul, Nat.reduceDiv, Nat.lt_irrefl, Nat.not_lt_zero, Nat.zero_le, Nat.one_ne_zero, Nat.succ_ne_zero,  lt_def, i32_lit, reduceIte, P_isIn_eq, M_isIn_eq, M_goes_eq, or_false, false_or, or_true, true_or, and_true, true_and, and_false, false_and, not_true, not_false_eq_true, eq_self, if_true, if_false, not_or, not_and, Nat.not_lt, Nat.not_le, e, io_le, h1, c1, io_eq, hf, io_add, t1, e2, t4, h5, h0]
  · have h5 : c2 ≤ M := by omega
    simp (disch := omega) only [f_M_aggregate_b25, f_M_aggregate_b78, f_M_aggregate_b106, f_M_aggregate_b219, Option.bind_some, Nat.reduceEqDiff, Nat.add_zero, Nat.zero_add, Nat.reduceLT, Nat.reduceLeDiff, Nat.reduceAdd, Nat.reduceSub, Nat.reduceMul, Nat.reduceDiv, Nat.lt_irrefl, Nat.not_lt_zero, Nat.zero_le, Nat.one_ne_zero, Nat.succ_ne_zero,  lt_def, i32_lit, reduceIte, P_isIn_eq, M_isIn_eq, M_goes_eq, or_false, false_or, or_true, true_or, and_true, true_and, and_false, false_and, not_true, not_false_eq_true, eq_self, if_true, if_false, not_or, not_and, Nat.not_lt, Nat.not_le, e, io_le, h1, c1, io_eq, hf, io_add, t1, e2, t4, h5, h0]
theorem agg_w5b {F n m k L M wh : Nat} {s s1 : St} {pg its v : Int32} {t : Int64} (e : gI s 2527 = io m) (h1 : ¬ m ≤ k) (hm : m ≤ 100) (hL : L ≤ 100) (hM : M ≤ 100) (c1 : f_M_isChosen F s pg its (io k) = some (io 1, s1)) (hf : f_M_fieldIn F s1 (io k) (io wh) = some (v, s1)) {s2 : St} {c : Nat} (hc : c ≤ 100) (hc0 : ¬ c = 0) (t1 : f_M_times F s1 pg its v (io k) = some (io c, s2)) : f_M_aggregate_b25 F (n + 1) s pg its (io 5) (io wh) t (io L) (io M) (io k) = f_M_aggregate_b25 F n s2 pg its (io 5) (io wh) t (io (L + 1)) (io M) (io (k + 1)) := by
  simp (disch := omega) only [f_M_aggregate_b25, f_M_aggregate_b78, f_M_aggregate_b106, f_M_aggregate_b219, Option.bind_some, Nat.reduceEqDiff, Nat.add_zero, Nat.zero_add, Nat.reduceLT, Nat.reduceLeDiff, Nat.reduceAdd, Nat.reduceSub, Nat.reduceMul, Nat.reduceDiv, Nat.lt_irrefl, Nat.not_lt_zero, Nat.zero_le, Nat.one_ne_zero, Nat.succ_ne_zero,  lt_def, i32_lit, reduceIte, P_isIn_eq, M_isIn_eq, M_goes_eq, or_false, false_or, or_true, true_or, and_true, true_and, and_false, false_and, not_true, not_false_eq_true, eq_self, if_true, if_false, not_or, not_and, Nat.not_lt, Nat.not_le, e, io_le, h1, c1, io_eq, hf, io_add, t1, hc0]
theorem agg_loop {F m : Nat} (hF : 5000 ≤ F) {s0 : St} {ch : Nat → Bool} {val : Nat → Int32} {pg its : Int32} {wh w : Nat} (hwh : (its >>> (io 3 &&& io 31)) &&& io 7 = io wh) (hw : w ≤ 5) (hm : m ≤ 100) (e27 : gI s0 2527 = io m)
    (hch : ∀ s, Fr [] [51] s0 s → ∀ k, k < m → ∃ s', f_M_isChosen F s pg its (io k) = some (if ch k then io 1 else io 0, s') ∧ Fr [] [51] s s' ∧ gJ s' = gJ s)
    (hval : ∀ s, Fr [] [51] s0 s → ∀ k, k < m → f_M_fieldIn F s (io k) (io wh) = some (val k, s)) (hok : ∀ k, k < m → vok (val k)) :
    ∀ (d n k : Nat) (s : St), k + d = m → d < n → Fr [] [51] s0 s → ∃ s', f_M_aggregate_b25 F n s pg its (io w) (io wh) (tld ch val m w k) (io (VS ch val k).length) (io (mst ch val m w k)) (io k) = some (tld ch val m w m, s') ∧ Fr [] [51] s s' ∧ gJ s' = gJ s := by
  intro d
  induction d with
  | zero =>
    intro n k s hk hn f
    obtain ⟨n, rfl⟩ : ∃ n', n = n' + 1 := ⟨n - 1, by omega⟩
    have hk' : k = m := by omega
    subst hk'
    have e : gI s 2527 = io k := by rw [f.gi 2527 (by decide)]; exact e27
    refine ⟨s, ?_, Fr.rf, rfl⟩
    simp (disch := omega) only [f_M_aggregate_b25, Option.bind_some, Nat.reduceEqDiff, Nat.add_zero, Nat.zero_add, Nat.reduceLT, Nat.reduceLeDiff, Nat.reduceAdd, Nat.reduceSub, Nat.reduceMul, Nat.reduceDiv, Nat.lt_irrefl, Nat.not_lt_zero, Nat.zero_le, Nat.one_ne_zero, Nat.succ_ne_zero,  lt_def, i32_lit, reduceIte, P_isIn_eq, M_isIn_eq, M_goes_eq, or_false, false_or, or_true, true_or, and_true, true_and, and_false, false_and, not_true, not_false_eq_true, eq_self, if_true, if_false, not_or, not_and, Nat.not_lt, Nat.not_le, e, io_le, Nat.le_refl]
  | succ d ih =>
    intro n k s hk hn f
    obtain ⟨n, rfl⟩ : ∃ n', n = n' + 1 := ⟨n - 1, by omega⟩
    have h1 : ¬ m ≤ k := by omega
    have e : gI s 2527 = io m := by rw [f.gi 2527 (by decide)]; exact e27
    have hkm : k < m := by omega
    obtain ⟨s1, c1, c2, c3⟩ := hch s f k hkm
    have hlen := VS_len (ch := ch) (val := val) k
    by_cases hc : ch k = true
    · rw [if_pos hc] at c1
      have f1 := f.trans c2
      have hf := hval s1 f1 k hkm
      have hvk := hok k hkm
      have hlen1 : (VS ch val (k + 1)).length = (VS ch val k).length + 1 := by rw [VS_t hc, List.length_append]; rfl
      have hmz : Nat → mst ch val m w k ≤ 100 := by
        intro _
        by_cases h : w = 5
        · subst h; exact Nat.le_trans (mst5le m k) hm
        · rw [mst_n h]; exact Nat.zero_le _
      have hms : w ≠ 5 → mst ch val m w (k + 1) = mst ch val m w k := fun h => by rw [mst_n h, mst_n h]
      have hk1 := VS_len (ch := ch) (val := val) m
      obtain ⟨s2, t1, t2, t3⟩ := times_loop (F := F) hwh hm hch hval hok hvk (e := k) (by omega) k F 0 s1 (by omega) (by omega) f1
      obtain ⟨s3, t4, t5, t6⟩ := times_loop (F := F) hwh hm hch hval hok hvk (e := m) (Nat.le_refl _) m F 0 s2 (by omega) (by omega) (f1.trans t2)
      rw [VS_0, vct_0, ← times_eq] at t1 t4
      have e2 : gI s2 2527 = io m := by rw [(f1.trans t2).gi 2527 (by decide)]; exact e27
      have hc1 := vct_le (VS ch val k) (tv (val k))
      have hc2 := vct_le (VS ch val m) (tv (val k))
      rcases (by omega : w = 0 ∨ w = 1 ∨ w = 2 ∨ w = 3 ∨ w = 4 ∨ w = 5) with rfl | rfl | rfl | rfl | rfl | rfl
      · obtain ⟨s4, d1, d2, d3⟩ := ih n (k + 1) s1 (by omega) (by omega) f1
        refine ⟨s4, ?_, c2.trans d2, d3.trans c3⟩
        rw [hlen1, tld0 hc (by omega), hms (by decide)] at d1
        rw [agg_w0 e h1 hm (by omega) (hmz 0) c1 hf]
        exact d1
      · obtain ⟨s4, d1, d2, d3⟩ := ih n (k + 1) s1 (by omega) (by omega) f1
        refine ⟨s4, ?_, c2.trans d2, d3.trans c3⟩
        rw [hlen1, tld1 hc, hms (by decide)] at d1
        rw [agg_w1 e h1 hm (by omega) (hmz 0) c1 hf]
        exact d1
      · obtain ⟨s4, d1, d2, d3⟩ := ih n (k + 1) s1 (by omega) (by omega) f1
        refine ⟨s4, ?_, c2.trans d2, d3.trans c3⟩
        rw [hlen1, tld2 hc, hms (by decide)] at d1
        rw [agg_w2 e h1 hm (by omega) (hmz 0) c1 hf]
        exact d1
      · obtain ⟨s4, d1, d2, d3⟩ := ih n (k + 1) s1 (by omega) (by omega) f1
        refine ⟨s4, ?_, c2.trans d2, d3.trans c3⟩
        rw [hlen1, tld3 hc, hms (by decide)] at d1
        rw [agg_w3 e h1 hm (by omega) (hmz 0) c1 hf]
        exact d1
      · obtain ⟨s4, d1, d2, d3⟩ := ih n (k + 1) s2 (by omega) (by omega) (f1.trans t2)
        refine ⟨s4, ?_, (c2.trans t2).trans d2, d3.trans (t3.trans c3)⟩
        rw [hlen1, tld4 hc (by omega), hms (by decide)] at d1
        rw [agg_w4 e h1 hm (by omega) (hmz 0) c1 hf (by omega) t1]
        exact d1
      · by_cases h0 : vct (VS ch val k) (tv (val k)) = 0
        · obtain ⟨s4, d1, d2, d3⟩ := ih n (k + 1) s3 (by omega) (by omega) ((f1.trans t2).trans t5)
          refine ⟨s4, ?_, ((c2.trans t2).trans t5).trans d2, d3.trans (t6.trans (t3.trans c3))⟩
          rw [hlen1, tld5a hkm hc, mst5a hkm hc] at d1
          rw [h0] at t1
          have hmo := mst5le (ch := ch) (val := val) m k
          rw [agg_w5a e h1 hm (by omega) (by omega) c1 hf (by omega) t1 e2 t4]
          exact d1
        · obtain ⟨s4, d1, d2, d3⟩ := ih n (k + 1) s2 (by omega) (by omega) (f1.trans t2)
          refine ⟨s4, ?_, (c2.trans t2).trans d2, d3.trans (t3.trans c3)⟩
          rw [hlen1, tld5b hkm hc h0, mst5b hkm hc h0] at d1
          have hmo := mst5le (ch := ch) (val := val) m k
          rw [agg_w5b e h1 hm (by omega) (by omega) c1 hf (by omega) h0 t1]
          exact d1
    · rw [if_neg hc] at c1
      obtain ⟨s2, d1, d2, d3⟩ := ih n (k + 1) s1 (by omega) (by omega) (f.trans c2)
      refine ⟨s2, ?_, c2.trans d2, d3.trans c3⟩
      have e3 : tld ch val m w (k + 1) = tld ch val m w k := by unfold tld; rw [VS_f hc]
      have e4 : mst ch val m w (k + 1) = mst ch val m w k := by unfold mst; rw [VS_f hc]
      rw [e3, e4, VS_f hc] at d1
      simp (disch := omega) only [f_M_aggregate_b25, Option.bind_some, Nat.reduceEqDiff, Nat.add_zero, Nat.zero_add, Nat.reduceLT, Nat.reduceLeDiff, Nat.reduceAdd, Nat.reduceSub, Nat.reduceMul, Nat.reduceDiv, Nat.lt_irrefl, Nat.not_lt_zero, Nat.zero_le, Nat.one_ne_zero, Nat.succ_ne_zero,  lt_def, i32_lit, reduceIte, P_isIn_eq, M_isIn_eq, M_goes_eq, or_false, false_or, or_true, true_or, and_true, true_and, and_false, false_and, not_true, not_false_eq_true, eq_self, if_true, if_false, not_or, not_and, Nat.not_lt, Nat.not_le, e, io_le, h1, c1, io_eq, io_add]
      exact d1
