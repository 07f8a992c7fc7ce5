/-! the class turns a text into codes: its recursion, seen from the grammar -/
def PP (t : Nat → Nat) (n : Nat) (s : St) (pl : List PR) (c : List Nat) (i u : Nat) : Prop := CB s pl c ∧ CX2 t n s ∧ gI s 1669 = io 0 ∧ c.length + pl.length ≤ 2 * i ∧ pl.length ≤ i ∧ ltp pl ∧ u ≤ i
def DP (r : Nat) (pl : List PR) (c rw : List Nat) (pl' : List PR) (c' : List Nat) : Prop := ∃ pd : List PR, pl' = pd ++ pl ∧ c' ++ pd.map Prod.fst = c ++ rw ∧ ∀ y ∈ pd, r ≤ rkP y.1
def RP (F : Nat) (t : Nat → Nat) (n r : Nat) (pl : List PR) (c rw : List Nat) (x : Option St) (s : St) (M j : Nat) : Prop := ∃ s' m' u' pl' c', x = TP F n m' s' j u' ∧ m' + u' = M ∧ u' ≤ j ∧ FC s s' ∧ CB s' pl' c' ∧ gI s' 1669 = io 1 ∧ c'.length + pl'.length ≤ 2 * j ∧ pl'.length ≤ j ∧ DP r pl c rw pl' c'
def tpP (r : Nat) (pl : List PR) : Prop := ∀ y w, pl = y :: w → rkP y.1 < r
theorem rkP_lt {x : Nat} (h : 1 ≤ rkP x) : x < 1000 := by
  rcases Nat.lt_or_ge x 1000 with h1 | h1
  · exact h1
  · unfold rkP at h; revert h; repeat (first | omega | split)
theorem DP.q {r : Nat} {pl pl' : List PR} {c rw c' : List Nat} (h : DP r pl c rw pl' c') (hr : 1 ≤ r) (hl : ltp pl) : ltp pl' := by
  obtain ⟨pd, rfl, -, h3⟩ := h
  intro x hx
  rcases List.mem_append.mp hx with h | h
  · exact rkP_lt (Nat.le_trans hr (h3 x h))
  · exact hl x h
theorem RP.pre {F n r M j : Nat} {t : Nat → Nat} {pl : List PR} {c rw : List Nat} {x : Option St} {s s1 : St} (h : RP F t n r pl c rw x s1 M j) (f : FC s s1) : RP F t n r pl c rw x s M j := by
  obtain ⟨s', m', u', pl', c', a1, a2, a3, a4, a5⟩ := h
  exact ⟨s', m', u', pl', c', a1, a2, a3, f.trans a4, a5⟩
theorem chn_dg {α : Type} {t : Nat → Nat} {part : Nat → Option (List α) × Nat} {sg : Nat → Bool} {tk : Nat → α} (hs : ∀ x, sg x = true → dgt x = false) {k : Nat} {acc : List α} {i : Nat} (hd : dgt (t (chn t part sg tk k acc i).2) = false) : dgt (t i) = false := by
  cases k with
  | zero => exact hd
  | succ k =>
    unfold chn at hd
    by_cases h : sg (t i) = true
    · exact hs _ h
    · rw [if_neg h] at hd; exact hd
theorem sgc_dg {g x : Nat} (h : sgc g x = true) : dgt x = false := by
  unfold sgc cmc at h
  unfold dgt
  rw [decide_eq_false_iff_not]
  intro hc
  by_cases g0 : g = 0
  · rw [if_pos g0] at h; have := of_decide_eq_true h; omega
  · rw [if_neg g0] at h
    by_cases g1 : g = 1
    · rw [if_pos g1] at h; have := of_decide_eq_true h; omega
    · rw [if_neg g1] at h
      by_cases g2 : g = 2
      · rw [if_pos g2] at h; have := of_decide_eq_true h; omega
      · rw [if_neg g2] at h
        by_cases g3 : g = 3
        · rw [if_pos g3] at h; have := of_decide_eq_true h; omega
        · rw [if_neg g3] at h
          by_cases g4 : g = 4
          · rw [if_pos g4] at h; have := of_decide_eq_true h; omega
          · rw [if_neg g4] at h; cases h
def rgP (g : Nat) : Nat := if g = 0 then 4 else if g = 1 then 5 else if g = 2 then 6 else if g = 3 then 1 else 2
theorem sgc_rk {g x : Nat} (hg : g ≤ 4) (h : sgc g x = true) : rkP x = rgP g ∧ x ≠ 33 ∧ x ≠ 0 := by
  unfold sgc cmc at h
  rcases (by omega : g = 0 ∨ g = 1 ∨ g = 2 ∨ g = 3 ∨ g = 4) with rfl | rfl | rfl | rfl | rfl
  · have h1 : x = 60 ∨ x = 62 ∨ x = 61 := of_decide_eq_true h
    rcases h1 with rfl | rfl | rfl <;> exact ⟨rfl, by decide, by decide⟩
  · have h1 : x = 43 ∨ x = 45 := of_decide_eq_true h
    rcases h1 with rfl | rfl <;> exact ⟨rfl, by decide, by decide⟩
  · have h1 : x = 42 ∨ x = 47 := of_decide_eq_true h
    rcases h1 with rfl | rfl <;> exact ⟨rfl, by decide, by decide⟩
  · have h1 : x = 124 := of_decide_eq_true h
    rw [h1]; exact ⟨rfl, by decide, by decide⟩
  · have h1 : x = 38 := of_decide_eq_true h
    rw [h1]; exact ⟨rfl, by decide, by decide⟩
section CHP
variable {α : Type} {F n i0 g r r' R' : Nat} {t : Nat → Nat} {part : Nat → Option (List α) × Nat} {tk : Nat → α} {rowf : List α → List Nat} {pl : List PR} {c : List Nat}
theorem chn_P (hF : 5000 ≤ F) (T : TXT t n) (hg : g ≤ 4) (hr : rgP g = r) (hrr : r ≤ r') (hR : r < R') (hrow : ∀ a b x, sgc g x = true → rowf (a ++ b ++ [tk x]) = rowf a ++ rowf b ++ [x]) (hl : ltp pl) (tp : tpP r pl) (hgd : ∀ i, i ≤ n → GD n i (part i) (fun _ _ => True))
    (hpart : ∀ i m u s pl2 c2 cc, i0 ≤ i → i ≤ n → 100 ≤ m + u → (part i).1 = some cc → dgt (t (part i).2) = false → PP t n s pl2 c2 i u → tpP R' pl2 → RP F t n r' pl2 c2 (rowf cc) (TP F n m s i u) s (m + u) (part i).2) :
    ∀ k acc i m u s pl' c' cc, i0 ≤ i → i ≤ n → 100 ≤ m + u → u ≤ i → (chn t part (sgc g) tk k acc i).1 = some cc → dgt (t (chn t part (sgc g) tk k acc i).2) = false → CB s pl' c' → CX2 t n s → gI s 1669 = io 1 → c'.length + pl'.length ≤ 2 * i → pl'.length ≤ i → DP r pl c (rowf acc) pl' c' →
    RP F t n r pl c (rowf cc) (TP F n m s i u) s (m + u) (chn t part (sgc g) tk k acc i).2 := by
  have hn := T.1
  have hr1 : 1 ≤ r ∧ r ≤ 6 := by rw [← hr]; unfold rgP; repeat (first | omega | split)
  intro k
  induction k with
  | zero =>
    intro acc i m u s pl' c' cc h0 hi hm hu hc hd H X h9 hz hp D
    cases hc
    exact ⟨s, m, u, pl', c', rfl, rfl, hu, FC.rf, H, h9, hz, hp, D⟩
  | succ k ih =>
    intro acc i m u s pl' c' cc h0 hi hm hu hc hd H X h9 hz hp D
    unfold chn at hc hd ⊢
    by_cases h : sgc g (t i) = true
    · rw [if_pos h] at hc hd ⊢
      obtain ⟨k1, k2, k3⟩ := sgc_rk hg h
      have i1 : i < n := T.in k3
      have hl' := D.q hr1.1 hl
      obtain ⟨pd, d1, d2, d3⟩ := D
      obtain ⟨s1, a1, a2, a3, a4⟩ := signC (F := F) hF T X H i1 rfl (k1.trans hr) hr1.1 hr1.2 k2 (fun _ => h9) d1 d2 d3 tp hl' hp hz
      obtain ⟨g1, g2, g3⟩ := hgd (i + 1) i1
      cases hq : (part (i + 1)).1 with
      | none => rw [hq] at hc; cases hc
      | some c2 =>
        rw [hq] at hc hd
        dsimp only at hc hd ⊢
        obtain ⟨y1, y2, -⟩ := g3 c2 hq
        have hdj := chn_dg (fun x hx => sgc_dg hx) hd
        have hlen : c'.length + pl'.length = (c ++ rowf acc).length + pl.length := by
          have := congrArg List.length d2
          rw [List.length_append, List.length_map] at this
          rw [d1, List.length_append]; omega
        have hpl : pl.length ≤ i := by rw [d1, List.length_append] at hp; omega
        have P2 : PP t n s1 ((t i, (c ++ rowf acc).length) :: pl) (c ++ rowf acc) (i + 1) (u + 1) := ⟨a3, a2.cx X, a4, by show (c ++ rowf acc).length + (pl.length + 1) ≤ 2 * (i + 1); omega, by show pl.length + 1 ≤ i + 1; omega, fun y hy => by
          rcases List.mem_cons.mp hy with h | h
          · rw [h]; exact tlt T
          · exact hl y h, by omega⟩
        obtain ⟨s3, m3, u3, pl3, c3, b1, b2, b3, b4, b5, b6, b7, b8, pd3, b9, b10, b11⟩ := hpart (i + 1) (m - 1) (u + 1) s1 _ _ c2 (by omega) i1 (by omega) hq hdj P2 (fun y w e => by cases e; show rkP (t i) < R'; omega)
        have D3 : DP r pl c (rowf (acc ++ c2 ++ [tk (t i)])) pl3 c3 := by
          refine ⟨pd3 ++ [(t i, (c ++ rowf acc).length)], by rw [b9, List.append_assoc]; rfl, ?_, fun y hy => ?_⟩
          · rw [List.map_append, ← List.append_assoc, b10, hrow _ _ _ h]
            simp only [List.append_assoc, List.map_cons, List.map_nil]
          · rcases List.mem_append.mp hy with hy | hy
            · have := b11 y hy; omega
            · rw [List.mem_singleton.mp hy]; show r ≤ rkP (t i); omega
        have hh := ih (acc ++ c2 ++ [tk (t i)]) (part (i + 1)).2 m3 u3 s3 pl3 c3 cc (by omega) g2 (by omega) b3 hc hd b5 ((a2.trans b4).cx X) b6 b7 b8 D3
        rw [b2] at hh
        rw [TP_step hn i1 hu (by omega) a1, b1]
        rw [show m - 1 + (u + 1) = m + u by omega] at hh
        exact hh.pre (a2.trans b4)
    · rw [if_neg h] at hc hd ⊢
      cases hc
      exact ⟨s, m, u, pl', c', rfl, rfl, hu, FC.rf, H, h9, hz, hp, D⟩
theorem chain_P (hF : 5000 ≤ F) (T : TXT t n) (hg : g ≤ 4) (hr : rgP g = r) (hrr : r ≤ r') (hR : r < R') (hrow : ∀ a b x, sgc g x = true → rowf (a ++ b ++ [tk x]) = rowf a ++ rowf b ++ [x]) (tp : tpP r pl) (hgd : ∀ i, i ≤ n → GD n i (part i) (fun _ _ => True))
    (hpart : ∀ i m u s pl2 c2 cc, i0 ≤ i → i ≤ n → 100 ≤ m + u → (part i).1 = some cc → dgt (t (part i).2) = false → PP t n s pl2 c2 i u → tpP R' pl2 → RP F t n r' pl2 c2 (rowf cc) (TP F n m s i u) s (m + u) (part i).2)
    {most m u : Nat} {s : St} {cc : List α} (hi : i0 ≤ n) (hm : 100 ≤ m + u) (hc : (chain t part (sgc g) tk most i0).1 = some cc) (hd : dgt (t (chain t part (sgc g) tk most i0).2) = false) (P : PP t n s pl c i0 u) : RP F t n r pl c (rowf cc) (TP F n m s i0 u) s (m + u) (chain t part (sgc g) tk most i0).2 := by
  unfold chain at hc hd ⊢
  obtain ⟨g1, g2, g3⟩ := hgd i0 hi
  cases hq : (part i0).1 with
  | none => rw [hq] at hc; cases hc
  | some c2 =>
    rw [hq] at hc hd
    dsimp only at hc hd ⊢
    obtain ⟨y1, y2, -⟩ := g3 c2 hq
    have hdj := chn_dg (fun x hx => sgc_dg hx) hd
    obtain ⟨s3, m3, u3, pl3, c3, b1, b2, b3, b4, b5, b6, b7, b8, pd3, b9, b10, b11⟩ := hpart i0 m u s pl c c2 (Nat.le_refl _) hi hm hq hdj P (fun y w e => by have := tp y w e; omega)
    have hh := (chn_P (F := F) hF T hg hr hrr hR hrow P.2.2.2.2.2.1 tp hgd hpart most c2 (part i0).2 m3 u3 s3 pl3 c3 cc (by omega) g2 (by omega) b3 hc hd b5 (b4.cx P.2.1) b6 b7 b8 ⟨pd3, b9, b10, fun y hy => by have := b11 y hy; omega⟩).pre b4
    rw [b2] at hh
    rw [b1]
    exact hh
end CHP
section PCS
variable {F n : Nat} {t : Nat → Nat}
/-- a char that is only pushed -/
theorem pushP {i u y : Nat} {s : St} {pl : List PR} {c : List Nat} (T : TXT t n) (P : PP t n s pl c i u) (hi : i < n) (hx : (t i = 33 ∧ y = 33) ∨ (t i = 40 ∧ y = 40) ∨ (t i = 45 ∧ y = 126)) : ∃ s', f_Coder_turnPart F s (io i) (io n) = some (io (i + 1), s') ∧ FC s s' ∧ PP t n s' ((y, c.length) :: pl) c (i + 1) (u + 1) := by
  have hn := T.1
  obtain ⟨H, X, h9, hz, hp, hl, hu⟩ := P
  obtain ⟨s1, a1, a2, a3, a4⟩ := push_eq (F := F) (x := y) H (by omega)
  have hlt : y < 1000 := by omega
  have mk : ∀ s', FC s s' → CB s' ((y, c.length) :: pl) c → gI s' 1669 = io 0 → PP t n s' ((y, c.length) :: pl) c (i + 1) (u + 1) := fun s' f h g => ⟨h, f.cx X, g, by show c.length + (pl.length + 1) ≤ 2 * (i + 1); omega, by show pl.length + 1 ≤ i + 1; omega, fun z hz => by
    rcases List.mem_cons.mp hz with h | h
    · rw [h]; exact hlt
    · exact hl z h, by omega⟩
  rcases hx with ⟨e, rfl⟩ | ⟨e, rfl⟩ | ⟨e, rfl⟩
  · refine ⟨sI s1 1669 (io 0), ?_, a2.I (by decide), mk _ (a2.I (by decide)) a3.I9 rfl⟩
    rw [part_pre T X hi, e, if_neg (by decide), if_neg (by decide), if_neg (by decide), if_neg (by decide), if_neg (by decide)]
    simp (disch := omega) only [f_Coder_turnSign, f_Coder_turnSign_b19, Option.bind_some, Nat.reduceEqDiff, Nat.add_zero, Nat.zero_add, Nat.reduceLT, Nat.reduceLeDiff, Nat.reduceAdd, Nat.reduceSub, Nat.reduceMul, Nat.reduceDiv, Nat.lt_irrefl, Nat.not_lt_zero, Nat.zero_le, Nat.one_ne_zero, Nat.succ_ne_zero,  lt_def, i32_lit, reduceIte, P_isIn_eq, M_isIn_eq, M_goes_eq, or_false, false_or, or_true, true_or, and_true, true_and, and_false, false_and, not_true, not_false_eq_true, eq_self, if_true, if_false, not_or, not_and, Nat.not_lt, Nat.not_le, io_eq, a1]
  · refine ⟨s1, ?_, a2, mk _ a2 a3 (by rw [a4]; exact h9)⟩
    rw [part_pre T X hi, e, if_neg (by decide), if_neg (by decide), if_neg (by decide), if_pos rfl, a1]
    rfl
  · refine ⟨sI s1 1669 (io 0), ?_, a2.I (by decide), mk _ (a2.I (by decide)) a3.I9 rfl⟩
    rw [part_pre T X hi, e, if_neg (by decide), if_neg (by decide), if_neg (by decide), if_neg (by decide), if_neg (by decide)]
    simp (disch := omega) only [f_Coder_turnSign, f_Coder_turnSign_b19, Option.bind_some, Nat.reduceEqDiff, Nat.add_zero, Nat.zero_add, Nat.reduceLT, Nat.reduceLeDiff, Nat.reduceAdd, Nat.reduceSub, Nat.reduceMul, Nat.reduceDiv, Nat.lt_irrefl, Nat.not_lt_zero, Nat.zero_le, Nat.one_ne_zero, Nat.succ_ne_zero,  lt_def, i32_lit, reduceIte, P_isIn_eq, M_isIn_eq, M_goes_eq, or_false, false_or, or_true, true_or, and_true, true_and, and_false, false_and, not_true, not_false_eq_true, eq_self, if_true, if_false, not_or, not_and, Nat.not_lt, Nat.not_le, io_eq, h9, a1]
theorem cmpP {i m u : Nat} {s : St} {pl : List PR} {c : List Nat} {cc : List CT} (hF : 5000 ≤ F) (T : TXT t n) (hm : 100 ≤ m + u) (P : PP t n s pl c i u) (tp : tpP 4 pl) (hi : i ≤ n) (hc : (pCmp t i).1 = some cc) (hd : dgt (t (pCmp t i).2) = false) : RP F t n 3 pl c (chrow cc) (TP F n m s i u) s (m + u) (pCmp t i).2 := by
  have hn := T.1
  unfold pCmp at hc hd ⊢
  by_cases hf : fdc (t i) = true
  · rw [if_pos hf] at hc hd ⊢
    have i1 := T.bin hf
    by_cases hs : cmc (t (i + 1)) = true
    · rw [if_pos hs] at hc hd ⊢
      have i2 := T.bin hs
      obtain ⟨H, X, h9, hz, hp, hl, hu⟩ := P
      have nd : ¬ dgt (t i) = true := fun h => by
        unfold dgt at h; unfold fdc at hf
        have e1 := of_decide_eq_true h
        have e2 := of_decide_eq_true hf
        omega
      have na : ¬ agc (t i) = true := fun h => by
        unfold agc at h; unfold fdc at hf
        have e1 := of_decide_eq_true h
        have e2 := of_decide_eq_true hf
        omega
      obtain ⟨s1, a1, a2, a3, a4⟩ := put_eq (F := F) (x := t i) H (by omega)
      have st1 : f_Coder_turnPart F s (io i) (io n) = some (io (i + 1), s1) := by
        rw [part_pre T X i1, if_neg nd, if_neg na, if_pos hf, a1]; rfl
      have hrk : rkP (t (i + 1)) = 4 := (sgc_rk (g := 0) (by omega) hs).1
      have n33 := (sgc_rk (g := 0) (by omega) hs).2.1
      have n45 : t (i + 1) ≠ 45 := fun e => by rw [e] at hs; exact absurd hs (by decide)
      obtain ⟨s2, b1, b2, b3, b4⟩ := signC (F := F) (pl := pl) (pd := []) (c := c) (e := [t i]) hF T (a2.cx X) a3 i2 rfl hrk (by omega) (by omega) n33 (fun e => absurd e n45) rfl (by rw [List.map_nil, List.append_nil]) (fun y hy => (List.not_mem_nil hy).elim) tp hl (by omega) (by rw [List.length_append]; show c.length + 1 + pl.length ≤ 2 * (i + 1); omega)
      have e2 : TP F n m s i u = TP F n (m - 1 - 1) s2 (i + 2) (u + 1 + 1) := by
        rw [TP_step hn i1 hu (by omega) st1, TP_step hn i2 (by omega) (by omega) b1]
      have P2 : PP t n s2 ((t (i + 1), (c ++ [t i]).length) :: pl) (c ++ [t i]) (i + 2) (u + 1 + 1) := ⟨b3, (a2.trans b2).cx X, b4, by rw [List.length_append]; show c.length + 1 + (pl.length + 1) ≤ 2 * (i + 2); omega, by show pl.length + 1 ≤ i + 2; omega, fun y hy => by
        rcases List.mem_cons.mp hy with h | h
        · rw [h]; exact tlt T
        · exact hl y h, by omega⟩
      have fin : ∀ b j s3 pd3, b ≤ 1 → j ≤ n → i + 2 + b ≤ j → FC s s3 → PP t n s3 (pd3 ++ (t (i + 1), (c ++ [t i]).length) :: pl) (c ++ [t i]) j (u + 2 + b) → pd3.map Prod.fst = (if b = 1 then [126] else []) → (∀ y ∈ pd3, 3 ≤ rkP y.1) → TP F n m s i u = TP F n (m - 2 - b) s3 j (u + 2 + b) →
          (cmpE (t (i + 1)) (t i) b (pNum t j)).1 = some cc → dgt (t (cmpE (t (i + 1)) (t i) b (pNum t j)).2) = false → RP F t n 3 pl c (chrow cc) (TP F n m s i u) s (m + u) (cmpE (t (i + 1)) (t i) b (pNum t j)).2 := by
        intro b j s3 pd3 hb hjn hij fs P3 hpd hpr eT hcc hdd
        obtain ⟨H3, X3, h93, hz3, hp3, hl3, hu3⟩ := P3
        unfold cmpE at hcc hdd ⊢
        have gnum := num_gd T hjn
        cases hv : (pNum t j).1 with
        | none => rw [hv] at hcc; cases hcc
        | some v =>
          rw [hv] at hcc hdd
          dsimp only at hcc hdd ⊢
          cases hcc
          have hvj := (gnum.2.2 v hv).1
          rw [List.length_append, List.length_append] at hz3
          have hz3' : c.length + 1 + (pd3.length + (pl.length + 1)) ≤ 2 * j := hz3
          obtain ⟨j1, s4, d1, d2, d3, d4⟩ := numC (F := F) hF T X3 H3 (by rw [List.length_append]; show c.length + 1 ≤ 78; omega) hjn hv hdd
          refine ⟨s4, m - 2 - b - 1, u + 2 + b + 1, _, _, by rw [eT, TP_step hn j1 hu3 (by omega) d1], by omega, by omega, fs.trans d2, d3, d4, ?_, ?_, pd3 ++ [(t (i + 1), (c ++ [t i]).length)], by rw [List.append_assoc]; rfl, ?_, fun y hy => ?_⟩
          · rw [List.length_append, List.length_append, List.length_append]
            show c.length + 1 + 2 + (pd3.length + (pl.length + 1)) ≤ 2 * (pNum t j).2
            omega
          · rw [List.length_append]
            rw [List.length_append] at hp3
            have hp3' : pd3.length + (pl.length + 1) ≤ j := hp3
            show pd3.length + (pl.length + 1) ≤ (pNum t j).2
            omega
          · rw [chrow_one, List.map_append, hpd]
            unfold chr1
            rw [if_pos hs]
            simp only [List.append_assoc, List.map_cons, List.map_nil, List.cons_append, List.nil_append]
          · rcases List.mem_append.mp hy with hy | hy
            · exact hpr y hy
            · rw [List.mem_singleton.mp hy]; show 3 ≤ rkP (t (i + 1)); omega
      by_cases h45 : t (i + 2) = 45
      · rw [if_pos h45] at hc hd ⊢
        have i3 := T.in' h45
        obtain ⟨s3, d1, d2, d3⟩ := pushP (F := F) (y := 126) T P2 i3 (Or.inr (Or.inr ⟨h45, rfl⟩))
        refine fin 1 (i + 3) s3 [(126, (c ++ [t i]).length)] (by omega) i3 (by omega) ((a2.trans b2).trans d2) d3 rfl (fun y hy => by rw [List.mem_singleton.mp hy]; show 3 ≤ rkP 126; decide) ?_ hc hd
        rw [e2, TP_step hn i3 (by omega) (by omega) d1]
        rfl
      · rw [if_neg h45] at hc hd ⊢
        exact fin 0 (i + 2) s2 [] (by omega) i2 (by omega) (a2.trans b2) P2 rfl (fun y hy => (List.not_mem_nil hy).elim) e2 hc hd
    · rw [if_neg hs] at hc; cases hc
  · rw [if_neg hf] at hc; cases hc
def tpg (g : Nat) : Nat := if g = 3 then 1 else if g = 4 then 2 else 4
theorem PCC (hF : 5000 ≤ F) (T : TXT t n) : ∀ d g i m u s pl c cc, (g = 3 ∨ g = 4 ∨ g = 5) → i ≤ n → 100 ≤ m + u → (pC t d g i).1 = some cc → dgt (t (pC t d g i).2) = false → PP t n s pl c i u → tpP (tpg g) pl → RP F t n (g - 2) pl c (chrow cc) (TP F n m s i u) s (m + u) (pC t d g i).2 := by
  have hn := T.1
  have hrow : ∀ g, (g = 3 ∨ g = 4) → ∀ a b x, sgc g x = true → chrow (a ++ b ++ [tkC x]) = chrow a ++ chrow b ++ [x] := by
    intro g hg a b x hx
    rw [chrow_app, chrow_app, chrow_one]
    unfold chr1 tkC
    have hx' : x = 124 ∨ x = 38 := by
      rcases hg with rfl | rfl
      · exact Or.inl (of_decide_eq_true hx)
      · exact Or.inr (of_decide_eq_true hx)
    rcases hx' with rfl | rfl <;> rfl
  intro d
  induction d with
  | zero => intro g i m u s pl c cc hg hi hm hc; cases hc
  | succ d ih =>
    intro g i m u s pl c cc hg hi hm hc hd P tp
    rcases hg with rfl | rfl | rfl
    · exact chain_P (r := 1) (r' := 2) (R' := 2) hF T (by omega) rfl (by omega) (by omega) (hrow 3 (Or.inl rfl)) tp (fun i hi => (pC_gd T d 4 i (by omega) hi).tt) (fun i m u s pl2 c2 cc h1 h2 h3 h4 h5 h6 h7 => ih 4 i m u s pl2 c2 cc (by omega) h2 h3 h4 h5 h6 h7) hi hm hc hd P
    · exact chain_P (r := 2) (r' := 3) (R' := 4) hF T (by omega) rfl (by omega) (by omega) (hrow 4 (Or.inr rfl)) tp (fun i hi => (pC_gd T d 5 i (by omega) hi).tt) (fun i m u s pl2 c2 cc h1 h2 h3 h4 h5 h6 h7 => ih 5 i m u s pl2 c2 cc (by omega) h2 h3 h4 h5 h6 h7) hi hm hc hd P
    · have hc' : (if t i = 33 then post (tkC 33) (pC t d 5 (i + 1)) else if t i = 40 then clo t (pC t d 3 (i + 1)) else pCmp t i).1 = some cc := hc
      have hd' : dgt (t (if t i = 33 then post (tkC 33) (pC t d 5 (i + 1)) else if t i = 40 then clo t (pC t d 3 (i + 1)) else pCmp t i).2) = false := hd
      show RP F t n 3 pl c (chrow cc) (TP F n m s i u) s (m + u) (if t i = 33 then post (tkC 33) (pC t d 5 (i + 1)) else if t i = 40 then clo t (pC t d 3 (i + 1)) else pCmp t i).2
      have hu := P.2.2.2.2.2.2
      by_cases h1 : t i = 33
      · rw [if_pos h1] at hc' hd' ⊢
        have i1 := T.in' h1
        obtain ⟨s1, a1, a2, a3⟩ := pushP (F := F) (y := 33) T P i1 (Or.inl ⟨h1, rfl⟩)
        unfold post at hc' hd' ⊢
        cases hq : (pC t d 5 (i + 1)).1 with
        | none => rw [hq] at hc'; cases hc'
        | some c2 =>
          rw [hq] at hc' hd'
          dsimp only at hc' hd' ⊢
          cases hc'
          have h := ih 5 (i + 1) (m - 1) (u + 1) s1 _ c c2 (by omega) i1 (by omega) hq hd' a3 (fun y w e => by cases e; show rkP 33 < 4; decide)
          rw [show m - 1 + (u + 1) = m + u by omega] at h
          obtain ⟨s3, m3, u3, pl3, c3, b1, b2, b3, b4, b5, b6, b7, b8, pd3, b9, b10, b11⟩ := h.pre a2
          refine ⟨s3, m3, u3, pl3, c3, by rw [TP_step hn i1 hu (by omega) a1, b1], b2, b3, b4, b5, b6, b7, b8, pd3 ++ [(33, c.length)], by rw [b9, List.append_assoc]; rfl, ?_, fun y hy => ?_⟩
          · rw [List.map_append, ← List.append_assoc, b10, chrow_app, chrow_one, List.append_assoc]; rfl
          · rcases List.mem_append.mp hy with hy | hy
            · exact b11 y hy
            · rw [List.mem_singleton.mp hy]; show 3 ≤ rkP 33; decide
      · rw [if_neg h1] at hc' hd' ⊢
        by_cases h2 : t i = 40
        · rw [if_pos h2] at hc' hd' ⊢
          have i1 := T.in' h2
          obtain ⟨s1, a1, a2, a3⟩ := pushP (F := F) (y := 40) T P i1 (Or.inr (Or.inl ⟨h2, rfl⟩))
          obtain ⟨g1, g2, g3⟩ := pC_gd T d 3 (i + 1) (by omega) i1
          unfold clo at hc' hd' ⊢
          cases hq : (pC t d 3 (i + 1)).1 with
          | none => rw [hq] at hc'; cases hc'
          | some c2 =>
            rw [hq] at hc' hd'
            dsimp only at hc' hd' ⊢
            by_cases h41 : t (pC t d 3 (i + 1)).2 = 41
            · rw [if_pos h41] at hc' hd' ⊢
              cases hc'
              have j1 := T.in' h41
              have y1 := (g3 cc hq).1
              have h := ih 3 (i + 1) (m - 1) (u + 1) s1 _ c cc (by omega) i1 (by omega) hq (by rw [h41]; decide) a3 (fun y w e => by cases e; show rkP 40 < 1; decide)
              rw [show m - 1 + (u + 1) = m + u by omega] at h
              obtain ⟨s3, m3, u3, pl3, c3, b1, b2, b3, b4, b5, b6, b7, b8, b9⟩ := h.pre a2
              have hl3 := b9.q (by omega) a3.2.2.2.2.2.1
              obtain ⟨pd3, b9, b10, b11⟩ := b9
              obtain ⟨s4, d1, d2, d3, d4⟩ := closeP (F := F) hF T (b4.cx P.2.1) b5 j1 h41 b9 b10 b11 hl3 b8 b7
              have hlen : c3.length + pl3.length = (c ++ chrow cc).length + (pl.length + 1) := by
                have := congrArg List.length b10
                rw [List.length_append, List.length_map] at this
                rw [b9, List.length_append]
                show c3.length + (pd3.length + (pl.length + 1)) = _
                omega
              refine ⟨s4, m3 - 1, u3 + 1, pl, c ++ chrow cc, by rw [TP_step hn i1 hu (by omega) a1, b1, TP_step hn j1 b3 (by omega) d1], by omega, by show u3 + 1 ≤ (pC t d 3 (i + 1)).2 + 1; omega, b4.trans d2, d3, d4, by show (c ++ chrow cc).length + pl.length ≤ 2 * ((pC t d 3 (i + 1)).2 + 1); omega, ?_, [], rfl, List.append_nil _, fun y hy => (List.not_mem_nil hy).elim⟩
              have := P.2.2.2.2.1
              show pl.length ≤ (pC t d 3 (i + 1)).2 + 1
              omega
            · rw [if_neg h41] at hc'; cases hc'
        · rw [if_neg h2] at hc' hd' ⊢
          exact cmpP hF T hm P tp hi hc' hd'
/-- an aggregate is opened -/
theorem openP {i u f i2 : Nat} {s : St} {pl : List PR} {c : List Nat} (T : TXT t n) (P : PP t n s pl c i u) (hk : agc (t i) = true) (hi2 : (fdc (t (i + 2)) = false ∧ f = 0 ∧ i2 = i + 2 ∧ i + 2 < n) ∨ (fdc (t (i + 2)) = true ∧ f = t (i + 2) ∧ i2 = i + 3)) (hi3 : i2 ≤ n) :
    ∃ s', f_Coder_turnPart F s (io i) (io n) = some (io (if t i2 = 58 then i2 + 1 else i2), s') ∧ FC s s' ∧ PP t n s' ((t i, c.length) :: pl) (c ++ [t i, f, 0]) (if t i2 = 58 then i2 + 1 else i2) (u + 1) := by
  have hn := T.1
  obtain ⟨H, X, h9, hz, hp, hl, hu⟩ := P
  have i1 := T.bin hk
  have i2n : i + 2 < n := by
    rcases hi2 with h | h
    · exact h.2.2.2
    · exact T.bin h.1
  have nd : ¬ dgt (t i) = true := fun h => by
    unfold dgt at h; unfold agc at hk
    have e1 := of_decide_eq_true h
    have e2 := of_decide_eq_true hk
    omega
  obtain ⟨s1, a1, a2, a3, a4⟩ := push_eq (F := F) (x := t i) H (by omega)
  obtain ⟨s2, b1, b2, b3, b4⟩ := put_eq (F := F) (x := t i) a3 (by omega)
  obtain ⟨s3, d1, d2, d3, d4⟩ := put_eq (F := F) (x := f) b3 (by rw [List.length_append]; show c.length + 1 ≤ 79; omega)
  obtain ⟨s4, e1, e2, e3, e4⟩ := put_eq (F := F) (x := 0) d3 (by rw [List.length_append, List.length_append]; show c.length + 1 + 1 ≤ 79; omega)
  have fc : FC s s4 := ((a2.trans b2).trans d2).trans e2
  have e3' : CB s4 ((t i, c.length) :: pl) (c ++ [t i, f, 0]) := by
    rw [List.append_assoc, List.append_assoc] at e3; exact e3
  have h94 : gI s4 1669 = io 0 := by rw [e4, d4, b4, a4]; exact h9
  refine ⟨s4, ?_, fc, e3', fc.cx X, h94, ?_, ?_, fun y hy => ?_, ?_⟩
  · rw [part_pre T X i1, if_neg nd, if_pos hk]
    have ex := X i i1
    have ex1 : gA s1 1 i = io (t i) := by rw [a2.1.ga 1 (by decide)]; exact ex
    have ex2 : gA s2 1 (i + 2) = io (t (i + 2)) := by rw [(a2.trans b2).1.ga 1 (by decide)]; exact X (i + 2) i2n
    have hf := isField_eq (F := F) (s := s2) (tlt (i := i + 2) T)
    have n0 : ¬ i < 0 := by omega
    have n1 : ¬ n ≤ i + 2 := by omega
    have n2 : i + 2 < 40 := by omega
    have eb : f_Coder_openAggregate_b60 F s2 (io n) (io i2) (io f) = some (io (if t i2 = 58 then i2 + 1 else i2), s4) := by
      by_cases hin : n ≤ i2
      · have : t i2 = 0 := T.2.2 i2 hin
        rw [if_neg (by rw [this]; decide)]
        simp (disch := omega) only [f_Coder_openAggregate_b60, Option.bind_some, Nat.reduceEqDiff, Nat.add_zero, Nat.zero_add, Nat.reduceLT, Nat.reduceLeDiff, Nat.reduceAdd, Nat.reduceSub, Nat.reduceMul, Nat.reduceDiv, Nat.lt_irrefl, Nat.not_lt_zero, Nat.zero_le, Nat.one_ne_zero, Nat.succ_ne_zero,  lt_def, i32_lit, reduceIte, P_isIn_eq, M_isIn_eq, M_goes_eq, or_false, false_or, or_true, true_or, and_true, true_and, and_false, false_and, not_true, not_false_eq_true, eq_self, if_true, if_false, not_or, not_and, Nat.not_lt, Nat.not_le, d1, e1, io_le, hin]
      · have n3 : ¬ 40 ≤ i2 := by omega
        have ex4 : gA s4 1 i2 = io (t i2) := by rw [fc.1.ga 1 (by decide)]; exact X i2 (by omega)
        have ht2 := tlt (i := i2) T
        by_cases h58 : t i2 = 58
        · simp (disch := omega) only [f_Coder_openAggregate_b60, Option.bind_some, Nat.reduceEqDiff, Nat.add_zero, Nat.zero_add, Nat.reduceLT, Nat.reduceLeDiff, Nat.reduceAdd, Nat.reduceSub, Nat.reduceMul, Nat.reduceDiv, Nat.lt_irrefl, Nat.not_lt_zero, Nat.zero_le, Nat.one_ne_zero, Nat.succ_ne_zero,  lt_def, i32_lit, reduceIte, P_isIn_eq, M_isIn_eq, M_goes_eq, or_false, false_or, or_true, true_or, and_true, true_and, and_false, false_and, not_true, not_false_eq_true, eq_self, if_true, if_false, not_or, not_and, Nat.not_lt, Nat.not_le, d1, e1, io_le, hin, n3, ix_io, ex4, h58, io_eq, io_add]
        · simp (disch := omega) only [f_Coder_openAggregate_b60, Option.bind_some, Nat.reduceEqDiff, Nat.add_zero, Nat.zero_add, Nat.reduceLT, Nat.reduceLeDiff, Nat.reduceAdd, Nat.reduceSub, Nat.reduceMul, Nat.reduceDiv, Nat.lt_irrefl, Nat.not_lt_zero, Nat.zero_le, Nat.one_ne_zero, Nat.succ_ne_zero,  lt_def, i32_lit, reduceIte, P_isIn_eq, M_isIn_eq, M_goes_eq, or_false, false_or, or_true, true_or, and_true, true_and, and_false, false_and, not_true, not_false_eq_true, eq_self, if_true, if_false, not_or, not_and, Nat.not_lt, Nat.not_le, d1, e1, io_le, hin, n3, ix_io, ex4, h58, io_eq]
    rcases hi2 with ⟨q1, q2, q3, -⟩ | ⟨q1, q2, q3⟩
    · rw [if_neg (by rw [q1]; decide)] at hf
      rw [q2, q3] at eb
      simp (disch := omega) only [f_Coder_openAggregate, Option.bind_some, Nat.reduceEqDiff, Nat.add_zero, Nat.zero_add, Nat.reduceLT, Nat.reduceLeDiff, Nat.reduceAdd, Nat.reduceSub, Nat.reduceMul, Nat.reduceDiv, Nat.lt_irrefl, Nat.not_lt_zero, Nat.zero_le, Nat.one_ne_zero, Nat.succ_ne_zero,  lt_def, i32_lit, reduceIte, P_isIn_eq, M_isIn_eq, M_goes_eq, or_false, false_or, or_true, true_or, and_true, true_and, and_false, false_and, not_true, not_false_eq_true, eq_self, if_true, if_false, not_or, not_and, Nat.not_lt, Nat.not_le, io_lt, n0, io_add, io_le, n1, n2, ix_io, ex, a1, ex1, b1, ex2, hf, eb]
      rw [q3]
    · rw [if_pos q1] at hf
      rw [q2, q3] at eb
      simp (disch := omega) only [f_Coder_openAggregate, Option.bind_some, Nat.reduceEqDiff, Nat.add_zero, Nat.zero_add, Nat.reduceLT, Nat.reduceLeDiff, Nat.reduceAdd, Nat.reduceSub, Nat.reduceMul, Nat.reduceDiv, Nat.lt_irrefl, Nat.not_lt_zero, Nat.zero_le, Nat.one_ne_zero, Nat.succ_ne_zero,  lt_def, i32_lit, reduceIte, P_isIn_eq, M_isIn_eq, M_goes_eq, or_false, false_or, or_true, true_or, and_true, true_and, and_false, false_and, not_true, not_false_eq_true, eq_self, if_true, if_false, not_or, not_and, Nat.not_lt, Nat.not_le, io_lt, n0, io_add, io_le, n1, n2, ix_io, ex, a1, ex1, b1, ex2, hf, io_eq, eb]
      rw [q3]
  · rw [List.length_append]
    show c.length + 3 + (pl.length + 1) ≤ 2 * _
    by_cases h58 : t i2 = 58
    · rw [if_pos h58]; omega
    · rw [if_neg h58]; omega
  · show pl.length + 1 ≤ _
    by_cases h58 : t i2 = 58
    · rw [if_pos h58]; omega
    · rw [if_neg h58]; omega
  · rcases List.mem_cons.mp hy with h | h
    · rw [h]; exact tlt T
    · exact hl y h
  · by_cases h58 : t i2 = 58
    · rw [if_pos h58]; omega
    · rw [if_neg h58]; omega
/-- an aggregate's bracket ends -/
theorem closeA {i k f : Nat} (hF : 5000 ≤ F) (T : TXT t n) {pl pl' pd : List PR} {c c' rw : List Nat} {s : St} (X : CX2 t n s) (H : CB s pl' c') (hi : i < n) (hx : t i = 41) (hk : agc k = true) (e1 : pl' = pd ++ (k, c.length) :: pl) (e2 : c' ++ pd.map Prod.fst = (c ++ [k, f, 0]) ++ rw) (e3 : ∀ y ∈ pd, 1 ≤ rkP y.1) (hl : ltp pl') (hp : pl'.length ≤ i) (hc : c'.length + pl'.length ≤ 2 * i) :
    ∃ s', f_Coder_turnPart F s (io i) (io n) = some (io (i + 1), s') ∧ FC s s' ∧ CB s' pl (c ++ ([k, f, rw.length] ++ rw)) ∧ gI s' 1669 = io 1 := by
  have hn := T.1
  have hklt : k < 1000 := by unfold agc at hk; have := of_decide_eq_true hk; omega
  have hk0 : rkP k < 1 := by
    unfold agc at hk
    have := of_decide_eq_true hk
    rcases this with rfl | rfl | rfl | rfl | rfl | rfl <;> decide
  obtain ⟨s1, b1, b2, b3, b4⟩ := settle_eq (F := F) (r := 1) (by omega) pl' F s c' H hl (by omega) (by omega) (by omega)
  rw [e1, flP_all pd _ c' e3 (fun y w h => by cases h; exact hk0), e2] at b3
  have b1' : f_Coder_settle F s (io 1) = some s1 := b1
  have hl1 : pl'.length = pd.length + (pl.length + 1) := by rw [e1, List.length_append]; rfl
  have hl2 : c'.length + pd.length = c.length + 3 + rw.length := by
    have := congrArg List.length e2
    rw [List.length_append, List.length_map, List.length_append, List.length_append] at this
    exact this
  have hlc : (c ++ [k, f, 0] ++ rw).length = c.length + 3 + rw.length := by rw [List.length_append, List.length_append]; rfl
  have g8 : gI s1 1668 = io (pl.length + 1) := b3.1
  have g28 : gA s1 28 pl.length = io k := by have := b3.2.1.1; rw [List.length_map] at this; exact this
  have g29 : gA s1 29 pl.length = io c.length := by have := b3.2.2.1.1; rw [List.length_map] at this; exact this
  have g65 : gI s1 1665 = io (c.length + 3 + rw.length) := by have := b3.2.2.2.1; rw [hlc] at this; exact this
  refine ⟨sA (sI (sI s1 1669 (io 1)) 1668 (io pl.length)) 27 (c.length + 2) (io rw.length), ?_, ((b2.I (by decide)).I (by decide)).A (by decide), ⟨rfl, b3.2.1.2, b3.2.2.1.2, ?_, fun j hj => ?_⟩, rfl⟩
  · rw [part_pre T X hi, if_neg (by rw [hx]; decide), if_neg (by rw [hx]; decide), if_neg (by rw [hx]; decide), if_neg (by rw [hx]; decide), if_pos hx]
    have n1 : ¬ pl.length + 1 < 1 := by omega
    have n2 : ¬ 40 < pl.length + 1 := by omega
    have n3 : ¬ c.length + 3 < 1 := by omega
    have n4 : ¬ c.length + 3 + rw.length < c.length + 3 := by omega
    have n5 : c.length + 3 - 1 = c.length + 2 := by omega
    have n6 : c.length + 3 + rw.length - (c.length + 3) = rw.length := by omega
    have n7 : ¬ 80 < c.length + 3 := by omega
    have hag := isAgg_eq (F := F) (s := sI (sI s1 1669 (io 1)) 1668 (io pl.length)) hklt
    rw [if_pos hk] at hag
    simp (disch := omega) only [f_Coder_close, Option.bind_some, Nat.reduceEqDiff, Nat.add_zero, Nat.zero_add, Nat.reduceLT, Nat.reduceLeDiff, Nat.reduceAdd, Nat.reduceSub, Nat.reduceMul, Nat.reduceDiv, Nat.lt_irrefl, Nat.not_lt_zero, Nat.zero_le, Nat.one_ne_zero, Nat.succ_ne_zero,  lt_def, i32_lit, reduceIte, P_isIn_eq, M_isIn_eq, M_goes_eq, or_false, false_or, or_true, true_or, and_true, true_and, and_false, false_and, not_true, not_false_eq_true, eq_self, if_true, if_false, not_or, not_and, Nat.not_lt, Nat.not_le, b1', gI_sI, g8, io_lt, n1, n2, io_eq, io_sub, Nat.add_sub_cancel, ix_io, gA_sI, g28, hag, g29, io_add, g65, n3, n4, n5, n6, n7]
  · show gI s1 1665 = _
    rw [g65, List.length_append, List.length_append]
    show io _ = io (c.length + (3 + rw.length))
    congr 1; omega
  · have hset : c ++ ([k, f, rw.length] ++ rw) = (c ++ [k, f, 0] ++ rw).set (c.length + 2) rw.length := by
      rw [List.append_assoc, List.set_append_right _ _ (by omega), show c.length + 2 - c.length = 2 by omega]
      rfl
    simp only [hset] at hj ⊢
    rw [List.length_set] at hj
    rw [List.getElem_set, gA_sA, if_pos rfl]
    by_cases hjj : j = c.length + 2
    · rw [if_pos hjj, if_pos hjj.symm]
    · rw [if_neg hjj, if_neg (fun e => hjj e.symm)]
      exact b3.2.2.2.2 j hj
end PCS
