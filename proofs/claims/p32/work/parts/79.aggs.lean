/-! what aggregates are to each other -/
theorem l_add {x y : Int64} (h1 : -4611686018427387904 ≤ x.toInt + y.toInt) (h2 : x.toInt + y.toInt < 4611686018427387904) : (x + y).toInt = x.toInt + y.toInt := by
  rw [Int64.toInt_add, Int.bmod_eq_of_le (by omega) (by omega)]
theorem l_sub {x y : Int64} (h1 : -4611686018427387904 ≤ x.toInt - y.toInt) (h2 : x.toInt - y.toInt < 4611686018427387904) : (x - y).toInt = x.toInt - y.toInt := by
  rw [Int64.toInt_sub, Int.bmod_eq_of_le (by omega) (by omega)]
theorem l_mul {x y : Int64} (h1 : -4611686018427387904 ≤ x.toInt * y.toInt) (h2 : x.toInt * y.toInt < 4611686018427387904) : (x * y).toInt = x.toInt * y.toInt := by
  rw [Int64.toInt_mul, Int.bmod_eq_of_le (by omega) (by omega)]
theorem l_io {n : Nat} (h : n < 2147483648) : (io n).toInt64.toInt = (n : Int) := by rw [Int32.toInt_toInt64, io_toInt h]
theorem snoc_ind {P : List Int32 → Prop} (h0 : P []) (h1 : ∀ l v, P l → P (l ++ [v])) : ∀ l, P l := by
  intro l
  have h : ∀ m : List Int32, P m.reverse := by
    intro m
    induction m with
    | nil => exact h0
    | cons v m ih => rw [List.reverse_cons]; exact h1 _ v ih
  have := h l.reverse
  rwa [List.reverse_reverse] at this
def vS (vs : List Int32) : Int := vs.foldl (fun a v => a + v.toInt) 0
theorem vS_snoc (vs : List Int32) (v : Int32) : vS (vs ++ [v]) = vS vs + v.toInt := by unfold vS; rw [List.foldl_append]; rfl
theorem in_snoc {l : List Int32} {v x : Int32} : x ∈ l ++ [v] ↔ x ∈ l ∨ x = v := by rw [List.mem_append, List.mem_singleton]
theorem len_snoc {l : List Int32} {v : Int32} : (l ++ [v]).length = l.length + 1 := by rw [List.length_append]; rfl
theorem vs_sum (vs : List Int32) : (∀ v ∈ vs, vok v) → vs.length ≤ 100 → (vsum vs).toInt = vS vs ∧ -1000 * (vs.length : Int) ≤ vS vs ∧ vS vs ≤ 1000 * (vs.length : Int) := by
  refine snoc_ind (P := fun vs => (∀ v ∈ vs, vok v) → vs.length ≤ 100 → (vsum vs).toInt = vS vs ∧ -1000 * (vs.length : Int) ≤ vS vs ∧ vS vs ≤ 1000 * (vs.length : Int)) ?_ ?_ vs
  · intro _ _; exact ⟨rfl, by decide, by decide⟩
  · intro l v ih hv hl
    rw [len_snoc] at hl
    obtain ⟨i1, i2, i3⟩ := ih (fun x hx => hv x (in_snoc.mpr (Or.inl hx))) (by omega)
    obtain ⟨j1, j2⟩ := hv v (in_snoc.mpr (Or.inr rfl))
    have e : v.toInt64.toInt = v.toInt := Int32.toInt_toInt64 v
    rw [vsum_snoc, vS_snoc, len_snoc, l_add (by rw [i1, e]; omega) (by rw [i1, e]; omega), i1, e]
    refine ⟨rfl, ?_, ?_⟩ <;> omega
theorem vS_ge (lo : Int) (vs : List Int32) : (∀ v ∈ vs, lo ≤ v.toInt) → (vs.length : Int) * lo ≤ vS vs := by
  refine snoc_ind (P := fun vs => (∀ v ∈ vs, lo ≤ v.toInt) → (vs.length : Int) * lo ≤ vS vs) ?_ ?_ vs
  · intro _; show ((0 : Nat) : Int) * lo ≤ 0; rw [Int.natCast_zero, Int.zero_mul]; exact Int.le_refl _
  · intro l v ih hv
    have i1 := ih (fun x hx => hv x (in_snoc.mpr (Or.inl hx)))
    have j := hv v (in_snoc.mpr (Or.inr rfl))
    rw [vS_snoc, len_snoc, Int.natCast_add, Int.add_mul]
    show _ + ((1 : Nat) : Int) * lo ≤ _
    rw [Int.natCast_one, Int.one_mul]; omega
theorem vS_le (hi : Int) (vs : List Int32) : (∀ v ∈ vs, v.toInt ≤ hi) → vS vs ≤ (vs.length : Int) * hi := by
  refine snoc_ind (P := fun vs => (∀ v ∈ vs, v.toInt ≤ hi) → vS vs ≤ (vs.length : Int) * hi) ?_ ?_ vs
  · intro _; show 0 ≤ ((0 : Nat) : Int) * hi; rw [Int.natCast_zero, Int.zero_mul]; exact Int.le_refl _
  · intro l v ih hv
    have i1 := ih (fun x hx => hv x (in_snoc.mpr (Or.inl hx)))
    have j := hv v (in_snoc.mpr (Or.inr rfl))
    rw [vS_snoc, len_snoc, Int.natCast_add, Int.add_mul]
    show _ ≤ _ + ((1 : Nat) : Int) * hi
    rw [Int.natCast_one, Int.one_mul]; omega
theorem vlo_ok (vs : List Int32) : vs.length ≠ 0 → vlo vs ∈ vs ∧ ∀ v ∈ vs, (vlo vs).toInt ≤ v.toInt := by
  refine snoc_ind (P := fun vs => vs.length ≠ 0 → vlo vs ∈ vs ∧ ∀ v ∈ vs, (vlo vs).toInt ≤ v.toInt) ?_ ?_ vs
  · intro h; exact absurd rfl h
  · intro l v ih _
    rw [vlo_snoc]
    by_cases h0 : l.length = 0
    · rw [if_pos h0]
      have hl : l = [] := List.length_eq_zero_iff.mp h0
      subst hl
      refine ⟨in_snoc.mpr (Or.inr rfl), fun x hx => ?_⟩
      rcases in_snoc.mp hx with h | h
      · exact absurd h List.not_mem_nil
      · rw [h]; exact Int.le_refl _
    · rw [if_neg h0]
      obtain ⟨i1, i2⟩ := ih h0
      by_cases h1 : v < vlo l
      · rw [if_pos h1]
        rw [Int32.lt_iff_toInt_lt] at h1
        refine ⟨in_snoc.mpr (Or.inr rfl), fun x hx => ?_⟩
        rcases in_snoc.mp hx with h | h
        · have := i2 x h; omega
        · rw [h]; exact Int.le_refl _
      · rw [if_neg h1]
        rw [Int32.lt_iff_toInt_lt] at h1
        refine ⟨in_snoc.mpr (Or.inl i1), fun x hx => ?_⟩
        rcases in_snoc.mp hx with h | h
        · exact i2 x h
        · rw [h]; omega
theorem vhi_ok (vs : List Int32) : vs.length ≠ 0 → vhi vs ∈ vs ∧ ∀ v ∈ vs, v.toInt ≤ (vhi vs).toInt := by
  refine snoc_ind (P := fun vs => vs.length ≠ 0 → vhi vs ∈ vs ∧ ∀ v ∈ vs, v.toInt ≤ (vhi vs).toInt) ?_ ?_ vs
  · intro h; exact absurd rfl h
  · intro l v ih _
    rw [vhi_snoc]
    by_cases h0 : l.length = 0
    · rw [if_pos h0]
      have hl : l = [] := List.length_eq_zero_iff.mp h0
      subst hl
      refine ⟨in_snoc.mpr (Or.inr rfl), fun x hx => ?_⟩
      rcases in_snoc.mp hx with h | h
      · exact absurd h List.not_mem_nil
      · rw [h]; exact Int.le_refl _
    · rw [if_neg h0]
      obtain ⟨i1, i2⟩ := ih h0
      by_cases h1 : vhi l < v
      · rw [if_pos h1]
        rw [Int32.lt_iff_toInt_lt] at h1
        refine ⟨in_snoc.mpr (Or.inr rfl), fun x hx => ?_⟩
        rcases in_snoc.mp hx with h | h
        · have := i2 x h; omega
        · rw [h]; exact Int.le_refl _
      · rw [if_neg h1]
        rw [Int32.lt_iff_toInt_lt] at h1
        refine ⟨in_snoc.mpr (Or.inl i1), fun x hx => ?_⟩
        rcases in_snoc.mp hx with h | h
        · exact i2 x h
        · rw [h]; omega
theorem vct_pos {vs : List Int32} {v : Int32} (h : v ∈ vs) : 0 < vct vs (tv v) := by
  unfold vct
  exact List.countP_pos_iff.mpr ⟨v, h, by simp⟩
theorem vct_in {vs : List Int32} {x : Nat} (h : 0 < vct vs x) : ∃ v ∈ vs, tv v = x := by
  unfold vct at h
  obtain ⟨v, h1, h2⟩ := List.countP_pos_iff.mp h
  exact ⟨v, h1, by simpa using h2⟩
theorem getD_in {vs : List Int32} {i : Nat} (h : i < vs.length) : vs.getD i 0 ∈ vs := by
  rw [List.getD_eq_getElem?_getD, List.getElem?_eq_getElem h]; exact List.getElem_mem h
theorem vmo_ok (vs : List Int32) : ∀ i, i < vs.length → 1 ≤ (vmo vs (i + 1)).1 ∧ ∃ v ∈ vs, (vmo vs (i + 1)).2 = v.toInt64 := by
  intro i
  induction i with
  | zero =>
    intro h
    have hg := getD_in h
    have hp := vct_pos hg
    rw [vmo, if_pos (show (vmo vs 0).1 < _ from hp)]
    exact ⟨hp, _, hg, rfl⟩
  | succ i ih =>
    intro h
    obtain ⟨i1, i2⟩ := ih (by omega)
    have hg := getD_in h
    have hp := vct_pos hg
    rw [vmo]
    by_cases hc : (vmo vs (i + 1)).1 < vct vs (tv (vs.getD (i + 1) 0))
    · rw [if_pos hc]; exact ⟨hp, _, hg, rfl⟩
    · rw [if_neg hc]; exact ⟨i1, i2⟩
theorem cnt_bump {f : Nat → Nat} {k : Nat} : ∀ N, k < N → cnt (fun x => decide (0 < f x + if k = x then 1 else 0)) N = cnt (fun x => decide (0 < f x)) N + if f k = 0 then 1 else 0 := by
  intro N
  induction N with
  | zero => intro h; omega
  | succ N ih =>
    intro h
    show cnt _ N + (if decide (0 < f N + if k = N then 1 else 0) = true then 1 else 0) = cnt _ N + (if decide (0 < f N) = true then 1 else 0) + _
    by_cases e : k = N
    · have e1 : cnt (fun x => decide (0 < f x + if k = x then 1 else 0)) N = cnt (fun x => decide (0 < f x)) N := cnt_ext fun x hx => by rw [if_neg (by omega)]; rfl
      rw [e1, e, if_pos rfl]
      by_cases h0 : f N = 0
      · simp [h0]
      · have : 0 < f N := by omega
        simp [h0, this]
    · rw [ih (by omega), if_neg e]
      simp only [Nat.add_zero]
      omega
theorem dst_cnt (vs : List Int32) : (∀ v ∈ vs, vok v) → vdst vs = cnt (fun x => decide (0 < vct vs x)) 2001 := by
  refine snoc_ind (P := fun vs => (∀ v ∈ vs, vok v) → vdst vs = cnt (fun x => decide (0 < vct vs x)) 2001) ?_ ?_ vs
  · intro _
    have : ∀ N, cnt (fun x => decide (0 < vct [] x)) N = 0 := by
      intro N
      induction N with
      | zero => rfl
      | succ N ih => show cnt _ N + _ = 0; rw [ih]; rfl
    rw [this]; rfl
  · intro l v ih hv
    have hk := tv_le (hv v (in_snoc.mpr (Or.inr rfl)))
    have hb := cnt_bump (f := vct l) (k := tv v) 2001 (by omega)
    rw [vdst_snoc, ih (fun x hx => hv x (in_snoc.mpr (Or.inl hx))), ← hb]
    exact cnt_ext fun x _ => by rw [vct_snoc]
theorem cnt_supp {p : Nat → Bool} {lo hi : Nat} : ∀ N, (∀ x, x < N → p x = true → lo ≤ x ∧ x ≤ hi) → cnt p N ≤ (if N ≤ hi + 1 then N else hi + 1) - lo := by
  intro N
  induction N with
  | zero => intro _; exact Nat.zero_le _
  | succ N ih =>
    intro h
    have i1 := ih (fun x hx => h x (by omega))
    show cnt p N + (if p N then 1 else 0) ≤ _
    by_cases hp : p N = true
    · have := h N (by omega) hp
      rw [if_pos hp, if_pos (show N + 1 ≤ hi + 1 by omega)]
      rw [if_pos (show N ≤ hi + 1 by omega)] at i1
      omega
    · rw [if_neg hp]
      by_cases h1 : N + 1 ≤ hi + 1
      · rw [if_pos h1]; rw [if_pos (by omega)] at i1; omega
      · rw [if_neg h1]
        by_cases h2 : N ≤ hi + 1
        · rw [if_pos h2] at i1; omega
        · rw [if_neg h2] at i1; omega
theorem cnt_ge1 {p : Nat → Bool} {a : Nat} (h : p a = true) : ∀ N, a < N → 1 ≤ cnt p N := by
  intro N
  induction N with
  | zero => intro h; omega
  | succ N ih =>
    intro hN
    show 1 ≤ cnt p N + (if p N then 1 else 0)
    by_cases e : a = N
    · rw [← e, if_pos h]; omega
    · have := ih (by omega); omega
theorem cnt_ge2 {p : Nat → Bool} {a b : Nat} (h : p a = true) (h2 : p b = true) (hab : a < b) : ∀ N, b < N → 2 ≤ cnt p N := by
  intro N
  induction N with
  | zero => intro h; omega
  | succ N ih =>
    intro hN
    show 2 ≤ cnt p N + (if p N then 1 else 0)
    by_cases e : b = N
    · have := cnt_ge1 h N (by omega)
      rw [← e, if_pos h2]; rw [← e] at this; omega
    · have := ih (by omega); omega
/-- the aggregates of some values -/
theorem agg_ok {vs : List Int32} (hne : vs.length ≠ 0) (hv : ∀ v ∈ vs, vok v) (hl : vs.length ≤ 100) :
    ∃ (lo hi mo sm : Int) (un : Nat), (vag 109 vs).toInt = lo ∧ (vag 120 vs).toInt = hi ∧ (vag 116 vs).toInt = mo ∧ (vag 115 vs).toInt = sm ∧ (vag 100 vs).toInt = (un : Int) ∧ -1000 ≤ lo ∧ hi ≤ 1000 ∧ lo ≤ mo ∧ mo ≤ hi ∧ (vs.length : Int) * lo ≤ sm ∧ sm ≤ (vs.length : Int) * hi ∧ 1 ≤ un ∧ un ≤ vs.length ∧ (un = 1 ↔ lo = hi) ∧ (un : Int) ≤ hi - lo + 1 := by
  obtain ⟨l1, l2⟩ := vlo_ok vs hne
  obtain ⟨h1, h2⟩ := vhi_ok vs hne
  obtain ⟨s1, -, -⟩ := vs_sum vs hv hl
  obtain ⟨n, hn⟩ : ∃ n, vs.length = n + 1 := ⟨vs.length - 1, by omega⟩
  obtain ⟨-, v, m1, m2⟩ := vmo_ok vs n (by omega)
  have d1 := dst_cnt vs hv
  have d2 := vdst_le vs
  have o1 := hv _ l1
  have o2 := hv _ h1
  have p1 : decide (0 < vct vs (tv (vlo vs))) = true := decide_eq_true (vct_pos l1)
  have p2 : decide (0 < vct vs (tv (vhi vs))) = true := decide_eq_true (vct_pos h1)
  have t1 := tv_le o1
  have t2 := tv_le o2
  have q1 := cnt_ge1 (p := fun x => decide (0 < vct vs x)) p1 2001 (by omega)
  have q2 := cnt_supp (p := fun x => decide (0 < vct vs x)) (lo := tv (vlo vs)) (hi := tv (vhi vs)) 2001 (fun x _ hx => by
    obtain ⟨u, u1, u2⟩ := vct_in (of_decide_eq_true hx)
    have a1 := l2 u u1
    have a2 := h2 u u1
    have a3 := hv u u1
    rw [← u2]
    unfold tv vok at *
    omega)
  rw [← d1] at q1 q2
  have lh := l2 _ h1
  have x1 : ((tv (vlo vs) : Nat) : Int) = (vlo vs).toInt + 1000 := by unfold tv; unfold vok at o1; omega
  have x2 : ((tv (vhi vs) : Nat) : Int) = (vhi vs).toInt + 1000 := by unfold tv; unfold vok at o2; omega
  have e0 : vs.length = n + 1 := hn
  refine ⟨(vlo vs).toInt, (vhi vs).toInt, v.toInt, vS vs, vdst vs, ?_, ?_, ?_, ?_, ?_, o1.1, o2.2, l2 v m1, h2 v m1, vS_ge _ vs l2, vS_le _ vs h2, q1, d2, ⟨fun hu => ?_, fun hu => ?_⟩, ?_⟩
  · exact Int32.toInt_toInt64 _
  · exact Int32.toInt_toInt64 _
  · show (vmo vs vs.length).2.toInt = _
    rw [hn, m2]; exact Int32.toInt_toInt64 _
  · exact s1
  · exact l_io (by omega)
  · by_cases e : tv (vlo vs) = tv (vhi vs)
    · omega
    · have := cnt_ge2 (p := fun x => decide (0 < vct vs x)) p1 p2 (by omega) 2001 (by omega)
      rw [← d1] at this; omega
  · have : tv (vlo vs) = tv (vhi vs) := by omega
    rw [this] at q2
    split at q2 <;> omega
  · split at q2 <;> omega
theorem agg_nil : vag 109 [] = 0 ∧ vag 120 [] = 0 ∧ vag 116 [] = 0 ∧ vag 115 [] = 0 ∧ vag 100 [] = 0 := by decide
theorem filt_len {α : Type} (p : α → Bool) : ∀ e : List α, (e.filter p).length + (e.filter (fun r => !p r)).length = e.length := by
  intro e
  induction e with
  | nil => rfl
  | cons a e ih =>
    rw [List.filter_cons, List.filter_cons, List.length_cons]
    by_cases h : p a = true
    · rw [if_pos h, if_neg (by simp [h]), List.length_cons]; omega
    · rw [if_neg h, if_pos (by simp [h]), List.length_cons]; omega
theorem vsum_go (l : List Int32) : ∀ z : Int64, l.foldl (fun a v => a + v.toInt64) z = z + vsum l := by
  induction l with
  | nil => intro z; exact (Int64.add_zero z).symm
  | cons v l ih =>
    intro z
    unfold vsum
    rw [List.foldl_cons, List.foldl_cons, ih, ih, Int64.add_assoc, Int64.zero_add]
theorem vsum_cons (v : Int32) (l : List Int32) : vsum (v :: l) = v.toInt64 + vsum l := by
  show l.foldl _ (0 + v.toInt64) = _
  rw [vsum_go, Int64.zero_add]
theorem filt_sum (p : Rec → Bool) (f : Rec → Int32) : ∀ e : List Rec, vsum ((e.filter p).map f) + vsum ((e.filter (fun r => !p r)).map f) = vsum (e.map f) := by
  intro e
  induction e with
  | nil => rfl
  | cons a e ih =>
    rw [List.filter_cons, List.filter_cons, List.map_cons, vsum_cons, ← ih]
    by_cases h : p a = true
    · rw [if_pos h, if_neg (by simp [h]), List.map_cons, vsum_cons, Int64.add_assoc]
    · rw [if_neg h, if_pos (by simp [h]), List.map_cons, vsum_cons, ← Int64.add_assoc, ← Int64.add_assoc, Int64.add_comm _ (f a).toInt64]
