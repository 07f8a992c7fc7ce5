/-! the beginning: what the three births of the law leave, as a static picture -/
def s00 : St := (fun _ => 0, fun _ _ => 0, fun _ => 0, fun _ _ => 0, fun _ => none, fun _ _ => none, fun _ => none, 0)
def li1 : St := sN s00 (.inl (10, fun _ => 0, fun _ => none, fun _ => 0))
def li2 : Option St := f_P_init 200 li1 (some 0)
def lna (n : Nat) (s : St) : St := sN s (.inr (.inl (1, n, fun _ => 0)))
def li5 (s : St) : St := lna 64 (lna 40 (lna 48 (lna 64 (lna 60 (lna 4 s)))))
def li : Option St := li2.bind fun s => some (li5 s)
/-- the state at the beginning -/
def σi : St := (fun _ => 0, fun k _ => if k = 13 ∨ k = 15 then -1 else 0, fun _ => 0, fun _ _ => 0, fun k => if k = 1536 then some 25 else none, fun _ _ => none, fun _ => none, 45)
def SC : List Dy := [
  .inl (10, fun j => gI σi (0 + j), fun j => ([some 1, none, none, some 2, none, some 3, some 12, some 18, some 24, some 26, some 30, some 34] : List (Option Nat)).getD j none, fun j => gL σi (0 + j)),
  .inr (.inl (0, 40, gA σi 1)),
  .inr (.inr (.inr (4, gQ σi 2))),
  .inl (2, fun j => gI σi (192 + j), fun j => ([some 4, some 5, some 6, some 7, some 8, some 9, some 10, some 11, none, none] : List (Option Nat)).getD j none, fun j => gL σi (192 + j)),
  .inr (.inl (1, 100, gA σi 4)),
  .inr (.inl (1, 100, gA σi 5)),
  .inr (.inl (1, 100, gA σi 6)),
  .inr (.inl (1, 100, gA σi 7)),
  .inr (.inl (1, 100, gA σi 8)),
  .inr (.inl (1, 100, gA σi 9)),
  .inr (.inl (1, 1002, gA σi 10)),
  .inr (.inl (1, 100, gA σi 11)),
  .inl (5, fun j => gI σi (768 + j), fun j => ([none, some 13, some 14, some 15, some 16, some 17, none] : List (Option Nat)).getD j none, fun j => gL σi (768 + j)),
  .inr (.inl (1, 126, gA σi 13)),
  .inr (.inl (1, 126, gA σi 14)),
  .inr (.inl (1, 126, gA σi 15)),
  .inr (.inl (1, 4000, gA σi 16)),
  .inr (.inl (1, 4000, gA σi 17)),
  .inl (0, fun j => gI σi (1152 + j), fun j => ([some 19, some 20, some 21, some 22, some 23, none, none] : List (Option Nat)).getD j none, fun j => gL σi (1152 + j)),
  .inr (.inl (1, 4000, gA σi 19)),
  .inr (.inl (1, 4000, gA σi 20)),
  .inr (.inl (1, 4000, gA σi 21)),
  .inr (.inl (1, 4000, gA σi 22)),
  .inr (.inl (3, 4000, gA σi 23)),
  .inl (4, fun j => gI σi (1536 + j), fun j => ([some 25, none, none] : List (Option Nat)).getD j none, fun j => gL σi (1536 + j)),
  .inr (.inl (0, 0, gA σi 25)),
  .inl (1, fun j => gI σi (1664 + j), fun j => ([some 27, none, some 28, some 29, none, none] : List (Option Nat)).getD j none, fun j => gL σi (1664 + j)),
  .inr (.inl (1, 80, gA σi 27)),
  .inr (.inl (1, 40, gA σi 28)),
  .inr (.inl (1, 40, gA σi 29)),
  .inl (9, fun j => gI σi (1920 + j), fun j => ([some 31] : List (Option Nat)).getD j none, fun j => gL σi (1920 + j)),
  .inl (8, fun j => gI σi (1984 + j), fun j => ([some 32, none, none, none, none, none, some 33] : List (Option Nat)).getD j none, fun j => gL σi (1984 + j)),
  .inr (.inl (1, 100, gA σi 32)),
  .inr (.inl (1, 2001, gA σi 33)),
  .inl (7, fun j => gI σi (2176 + j), fun j => ([some 35, some 38, none] : List (Option Nat)).getD j none, fun j => gL σi (2176 + j)),
  .inl (8, fun j => gI σi (2240 + j), fun j => ([some 36, none, none, none, none, none, some 37] : List (Option Nat)).getD j none, fun j => gL σi (2240 + j)),
  .inr (.inl (1, 100, gA σi 36)),
  .inr (.inl (1, 2001, gA σi 37)),
  .inr (.inr (.inl (40, gJ σi 38))),
  .inr (.inl (1, 4, gA σi 39)),
  .inr (.inl (1, 60, gA σi 40)),
  .inr (.inl (1, 64, gA σi 41)),
  .inr (.inl (1, 48, gA σi 42)),
  .inr (.inl (1, 40, gA σi 43)),
  .inr (.inl (1, 64, gA σi 44))]
theorem sc_0 (D : DD) (B : Nat) : (cells D B true σi)[0]? = some (dyE D B (.inl (10, fun j => gI σi (0 + j), fun j => ([some 1, none, none, some 2, none, some 3, some 12, some 18, some 24, some 26, some 30, some 34] : List (Option Nat)).getD j none, fun j => gL σi (0 + j)))) := by
  unfold dyE
  dsimp only
  simp only [fty, List.mapIdx_cons, List.mapIdx_nil]
  rfl
theorem sc_1 (D : DD) (B : Nat) : (cells D B true σi)[1]? = some (dyE D B (.inr (.inl (0, 40, gA σi 1)))) := rfl
theorem sc_2 (D : DD) (B : Nat) : (cells D B true σi)[2]? = some (dyE D B (.inr (.inr (.inr (4, gQ σi 2))))) := rfl
theorem sc_3 (D : DD) (B : Nat) : (cells D B true σi)[3]? = some (dyE D B (.inl (2, fun j => gI σi (192 + j), fun j => ([some 4, some 5, some 6, some 7, some 8, some 9, some 10, some 11, none, none] : List (Option Nat)).getD j none, fun j => gL σi (192 + j)))) := by
  unfold dyE
  dsimp only
  simp only [fty, List.mapIdx_cons, List.mapIdx_nil]
  rfl
theorem sc_4 (D : DD) (B : Nat) : (cells D B true σi)[4]? = some (dyE D B (.inr (.inl (1, 100, gA σi 4)))) := rfl
theorem sc_5 (D : DD) (B : Nat) : (cells D B true σi)[5]? = some (dyE D B (.inr (.inl (1, 100, gA σi 5)))) := rfl
theorem sc_6 (D : DD) (B : Nat) : (cells D B true σi)[6]? = some (dyE D B (.inr (.inl (1, 100, gA σi 6)))) := rfl
theorem sc_7 (D : DD) (B : Nat) : (cells D B true σi)[7]? = some (dyE D B (.inr (.inl (1, 100, gA σi 7)))) := rfl
theorem sc_8 (D : DD) (B : Nat) : (cells D B true σi)[8]? = some (dyE D B (.inr (.inl (1, 100, gA σi 8)))) := rfl
theorem sc_9 (D : DD) (B : Nat) : (cells D B true σi)[9]? = some (dyE D B (.inr (.inl (1, 100, gA σi 9)))) := rfl
theorem sc_10 (D : DD) (B : Nat) : (cells D B true σi)[10]? = some (dyE D B (.inr (.inl (1, 1002, gA σi 10)))) := rfl
theorem sc_11 (D : DD) (B : Nat) : (cells D B true σi)[11]? = some (dyE D B (.inr (.inl (1, 100, gA σi 11)))) := rfl
theorem sc_12 (D : DD) (B : Nat) : (cells D B true σi)[12]? = some (dyE D B (.inl (5, fun j => gI σi (768 + j), fun j => ([none, some 13, some 14, some 15, some 16, some 17, none] : List (Option Nat)).getD j none, fun j => gL σi (768 + j)))) := by
  unfold dyE
  dsimp only
  simp only [fty, List.mapIdx_cons, List.mapIdx_nil]
  rfl
theorem sc_13 (D : DD) (B : Nat) : (cells D B true σi)[13]? = some (dyE D B (.inr (.inl (1, 126, gA σi 13)))) := rfl
theorem sc_14 (D : DD) (B : Nat) : (cells D B true σi)[14]? = some (dyE D B (.inr (.inl (1, 126, gA σi 14)))) := rfl
theorem sc_15 (D : DD) (B : Nat) : (cells D B true σi)[15]? = some (dyE D B (.inr (.inl (1, 126, gA σi 15)))) := rfl
theorem sc_16 (D : DD) (B : Nat) : (cells D B true σi)[16]? = some (dyE D B (.inr (.inl (1, 4000, gA σi 16)))) := rfl
theorem sc_17 (D : DD) (B : Nat) : (cells D B true σi)[17]? = some (dyE D B (.inr (.inl (1, 4000, gA σi 17)))) := rfl
theorem sc_18 (D : DD) (B : Nat) : (cells D B true σi)[18]? = some (dyE D B (.inl (0, fun j => gI σi (1152 + j), fun j => ([some 19, some 20, some 21, some 22, some 23, none, none] : List (Option Nat)).getD j none, fun j => gL σi (1152 + j)))) := by
  unfold dyE
  dsimp only
  simp only [fty, List.mapIdx_cons, List.mapIdx_nil]
  rfl
theorem sc_19 (D : DD) (B : Nat) : (cells D B true σi)[19]? = some (dyE D B (.inr (.inl (1, 4000, gA σi 19)))) := rfl
theorem sc_20 (D : DD) (B : Nat) : (cells D B true σi)[20]? = some (dyE D B (.inr (.inl (1, 4000, gA σi 20)))) := rfl
theorem sc_21 (D : DD) (B : Nat) : (cells D B true σi)[21]? = some (dyE D B (.inr (.inl (1, 4000, gA σi 21)))) := rfl
theorem sc_22 (D : DD) (B : Nat) : (cells D B true σi)[22]? = some (dyE D B (.inr (.inl (1, 4000, gA σi 22)))) := rfl
theorem sc_23 (D : DD) (B : Nat) : (cells D B true σi)[23]? = some (dyE D B (.inr (.inl (3, 4000, gA σi 23)))) := rfl
theorem sc_24 (D : DD) (B : Nat) : (cells D B true σi)[24]? = some (dyE D B (.inl (4, fun j => gI σi (1536 + j), fun j => ([some 25, none, none] : List (Option Nat)).getD j none, fun j => gL σi (1536 + j)))) := by
  unfold dyE
  dsimp only
  simp only [fty, List.mapIdx_cons, List.mapIdx_nil]
  rfl
theorem sc_25 (D : DD) (B : Nat) : (cells D B true σi)[25]? = some (dyE D B (.inr (.inl (0, 0, gA σi 25)))) := rfl
theorem sc_26 (D : DD) (B : Nat) : (cells D B true σi)[26]? = some (dyE D B (.inl (1, fun j => gI σi (1664 + j), fun j => ([some 27, none, some 28, some 29, none, none] : List (Option Nat)).getD j none, fun j => gL σi (1664 + j)))) := by
  unfold dyE
  dsimp only
  simp only [fty, List.mapIdx_cons, List.mapIdx_nil]
  rfl
theorem sc_27 (D : DD) (B : Nat) : (cells D B true σi)[27]? = some (dyE D B (.inr (.inl (1, 80, gA σi 27)))) := rfl
theorem sc_28 (D : DD) (B : Nat) : (cells D B true σi)[28]? = some (dyE D B (.inr (.inl (1, 40, gA σi 28)))) := rfl
theorem sc_29 (D : DD) (B : Nat) : (cells D B true σi)[29]? = some (dyE D B (.inr (.inl (1, 40, gA σi 29)))) := rfl
theorem sc_30 (D : DD) (B : Nat) : (cells D B true σi)[30]? = some (dyE D B (.inl (9, fun j => gI σi (1920 + j), fun j => ([some 31] : List (Option Nat)).getD j none, fun j => gL σi (1920 + j)))) := by
  unfold dyE
  dsimp only
  simp only [fty, List.mapIdx_cons, List.mapIdx_nil]
  rfl
theorem sc_31 (D : DD) (B : Nat) : (cells D B true σi)[31]? = some (dyE D B (.inl (8, fun j => gI σi (1984 + j), fun j => ([some 32, none, none, none, none, none, some 33] : List (Option Nat)).getD j none, fun j => gL σi (1984 + j)))) := by
  unfold dyE
  dsimp only
  simp only [fty, List.mapIdx_cons, List.mapIdx_nil]
  rfl
theorem sc_32 (D : DD) (B : Nat) : (cells D B true σi)[32]? = some (dyE D B (.inr (.inl (1, 100, gA σi 32)))) := rfl
theorem sc_33 (D : DD) (B : Nat) : (cells D B true σi)[33]? = some (dyE D B (.inr (.inl (1, 2001, gA σi 33)))) := rfl
theorem sc_34 (D : DD) (B : Nat) : (cells D B true σi)[34]? = some (dyE D B (.inl (7, fun j => gI σi (2176 + j), fun j => ([some 35, some 38, none] : List (Option Nat)).getD j none, fun j => gL σi (2176 + j)))) := by
  unfold dyE
  dsimp only
  simp only [fty, List.mapIdx_cons, List.mapIdx_nil]
  rfl
theorem sc_35 (D : DD) (B : Nat) : (cells D B true σi)[35]? = some (dyE D B (.inl (8, fun j => gI σi (2240 + j), fun j => ([some 36, none, none, none, none, none, some 37] : List (Option Nat)).getD j none, fun j => gL σi (2240 + j)))) := by
  unfold dyE
  dsimp only
  simp only [fty, List.mapIdx_cons, List.mapIdx_nil]
  rfl
theorem sc_36 (D : DD) (B : Nat) : (cells D B true σi)[36]? = some (dyE D B (.inr (.inl (1, 100, gA σi 36)))) := rfl
theorem sc_37 (D : DD) (B : Nat) : (cells D B true σi)[37]? = some (dyE D B (.inr (.inl (1, 2001, gA σi 37)))) := rfl
theorem sc_38 (D : DD) (B : Nat) : (cells D B true σi)[38]? = some (dyE D B (.inr (.inr (.inl (40, gJ σi 38))))) := rfl
theorem sc_39 (D : DD) (B : Nat) : (cells D B true σi)[39]? = some (dyE D B (.inr (.inl (1, 4, gA σi 39)))) := rfl
theorem sc_40 (D : DD) (B : Nat) : (cells D B true σi)[40]? = some (dyE D B (.inr (.inl (1, 60, gA σi 40)))) := rfl
theorem sc_41 (D : DD) (B : Nat) : (cells D B true σi)[41]? = some (dyE D B (.inr (.inl (1, 64, gA σi 41)))) := rfl
theorem sc_42 (D : DD) (B : Nat) : (cells D B true σi)[42]? = some (dyE D B (.inr (.inl (1, 48, gA σi 42)))) := rfl
theorem sc_43 (D : DD) (B : Nat) : (cells D B true σi)[43]? = some (dyE D B (.inr (.inl (1, 40, gA σi 43)))) := rfl
theorem sc_44 (D : DD) (B : Nat) : (cells D B true σi)[44]? = some (dyE D B (.inr (.inl (1, 64, gA σi 44)))) := rfl
theorem cells_i (D : DD) (B : Nat) : ∀ k, k < 45 → (cells D B true σi)[k]? = (SC[k]?).map (dyE D B)
  | 0, _ => sc_0 D B
  | 1, _ => sc_1 D B
  | 2, _ => sc_2 D B
  | 3, _ => sc_3 D B
  | 4, _ => sc_4 D B
  | 5, _ => sc_5 D B
  | 6, _ => sc_6 D B
  | 7, _ => sc_7 D B
  | 8, _ => sc_8 D B
  | 9, _ => sc_9 D B
  | 10, _ => sc_10 D B
  | 11, _ => sc_11 D B
  | 12, _ => sc_12 D B
  | 13, _ => sc_13 D B
  | 14, _ => sc_14 D B
  | 15, _ => sc_15 D B
  | 16, _ => sc_16 D B
  | 17, _ => sc_17 D B
  | 18, _ => sc_18 D B
  | 19, _ => sc_19 D B
  | 20, _ => sc_20 D B
  | 21, _ => sc_21 D B
  | 22, _ => sc_22 D B
  | 23, _ => sc_23 D B
  | 24, _ => sc_24 D B
  | 25, _ => sc_25 D B
  | 26, _ => sc_26 D B
  | 27, _ => sc_27 D B
  | 28, _ => sc_28 D B
  | 29, _ => sc_29 D B
  | 30, _ => sc_30 D B
  | 31, _ => sc_31 D B
  | 32, _ => sc_32 D B
  | 33, _ => sc_33 D B
  | 34, _ => sc_34 D B
  | 35, _ => sc_35 D B
  | 36, _ => sc_36 D B
  | 37, _ => sc_37 D B
  | 38, _ => sc_38 D B
  | 39, _ => sc_39 D B
  | 40, _ => sc_40 D B
  | 41, _ => sc_41 D B
  | 42, _ => sc_42 D B
  | 43, _ => sc_43 D B
  | 44, _ => sc_44 D B
  | k + 45, h => absurd h (by omega)
def agr (a b : Dy) : Bool := match a, b with
  | .inl x, .inl y => decide (x.1 = y.1) && (List.range (fty x.1).length).all (fun j => match (fty x.1)[j]? with | some 0 => decide (x.2.1 j = y.2.1 j) | some 1 => decide (x.2.2.1 j = y.2.2.1 j) | some _ => decide (x.2.2.2 j = y.2.2.2 j) | none => true)
  | .inr (.inl x), .inr (.inl y) => decide (x.1 = y.1) && decide (x.2.1 = y.2.1) && (List.range x.2.1).all (fun j => decide (x.2.2 j = y.2.2 j))
  | .inr (.inr (.inl x)), .inr (.inr (.inl y)) => decide (x.1 = y.1) && (List.range x.1).all (fun j => decide (x.2 j = y.2 j))
  | .inr (.inr (.inr x)), .inr (.inr (.inr y)) => decide (x.1 = y.1) && (List.range x.1).all (fun j => decide (x.2 j = y.2 j))
  | _, _ => false
theorem arrV_congr {cI : ClassId} {N : Nat} {f g : Nat → Value} (h : ∀ j, j < N → f j = g j) : arrV cI N f = arrV cI N g := by
  unfold arrV
  congr 2
  funext j
  exact h _ j.2
theorem agr_at {D : DD} {B q : Nat} {H : Heap} {c c' : Dy} (h : agr c c' = true) (hq : va_at D.1 vwCl (q, dyE D B c) H) : va_at D.1 vwCl (q, dyE D B c') H := by
  rcases c with x | x | x | x <;> rcases c' with y | y | y | y <;> first | (exact absurd h Bool.false_ne_true) | skip
  · simp only [agr, Bool.and_eq_true, decide_eq_true_eq, List.all_eq_true, List.mem_range] at h
    obtain ⟨h1, h2⟩ := h
    have e : dyE D B (.inl x) = dyE D B (.inl y) := by
      obtain ⟨x1, x2, x3, x4⟩ := x
      obtain ⟨y1, y2, y3, y4⟩ := y
      dsimp only at h1 h2
      subst h1
      unfold dyE
      dsimp only
      congr 2
      apply List.ext_getElem?
      intro j
      rw [List.getElem?_mapIdx, List.getElem?_mapIdx]
      cases hj : (fty x1)[j]? with
      | none => rfl
      | some t =>
        have hl := (List.getElem?_eq_some_iff.mp hj).1
        have h3 := h2 j hl
        rw [hj] at h3
        show some (fv B (x2, x3, x4) j t) = some (fv B (y2, y3, y4) j t)
        match t, h3 with
        | 0, h3 => exact congrArg (fun z => some (Value.int z)) (of_decide_eq_true h3)
        | 1, h3 => exact congrArg (fun z => some (rfB B z)) (of_decide_eq_true h3)
        | (t + 2), h3 => exact congrArg (fun z => some (Value.long z)) (of_decide_eq_true h3)
    rw [← e]
    exact hq
  · simp only [agr, Bool.and_eq_true, decide_eq_true_eq, List.all_eq_true, List.mem_range] at h
    obtain ⟨x1, x2, x3⟩ := x
    obtain ⟨y1, y2, y3⟩ := y
    dsimp only at h
    obtain ⟨⟨rfl, rfl⟩, h2⟩ := h
    exact hq.trans (congrArg some (arrV_congr fun j hj => congrArg Value.int (h2 j hj)))
  · simp only [agr, Bool.and_eq_true, decide_eq_true_eq, List.all_eq_true, List.mem_range] at h
    obtain ⟨x1, x2⟩ := x
    obtain ⟨y1, y2⟩ := y
    dsimp only at h
    obtain ⟨rfl, h2⟩ := h
    exact hq.trans (congrArg some (arrV_congr fun j hj => congrArg Value.long (h2 j hj)))
  · simp only [agr, Bool.and_eq_true, decide_eq_true_eq, List.all_eq_true, List.mem_range] at h
    obtain ⟨x1, x2⟩ := x
    obtain ⟨y1, y2⟩ := y
    dsimp only at h
    obtain ⟨rfl, h2⟩ := h
    exact hq.trans (congrArg some (arrV_congr fun j hj => congrArg (fun z : Option Nat => va_rf (z.map (B + ·))) (h2 j hj)))
/-- the births, by number, leave the beginning -/
def lchk (s : St) : Bool := decide (sz s = 45) && (List.range 45).all (fun k => match gD s k, SC[k]? with | some c, some c' => agr c c' | _, _ => false)
theorem li_chk : (match li with | some s => lchk s | none => false) = true := by decide +kernel
theorem li2_chk : (match li2 with | some s => decide (sz s = 39) | none => false) = true := by decide +kernel
theorem Pic.begin {D : DD} {B : Nat} {s : St} {H : Heap} (h : Pic D B false s H) (hc : lchk s = true) : Pic D B true σi H := by
  simp only [lchk, Bool.and_eq_true, decide_eq_true_eq, List.all_eq_true, List.mem_range] at hc
  obtain ⟨h1, h2⟩ := hc
  refine ⟨by rw [h.1, h1]; rfl, fun k e hk => ?_, fun q c hq => by cases hq⟩
  have hkl : k < 45 := (List.getElem?_eq_some_iff.mp hk).1
  rw [cells_i D B k hkl] at hk
  cases hs : SC[k]? with
  | none => rw [hs] at hk; cases hk
  | some c' =>
    rw [hs] at hk
    cases hk
    have hl : k < 45 := (List.getElem?_eq_some_iff.mp hs).1
    have h3 := h2 k hl
    cases hg : gD s k with
    | none => rw [hg] at h3; cases h3
    | some c =>
      rw [hg, hs] at h3
      exact agr_at h3 (h.2.2 k c hg).2
