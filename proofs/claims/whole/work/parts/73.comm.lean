/-! hours that come: the model -/
def MI (L : Nat → LR) (m n R : Nat) (s : St) (y : GS) : Prop := gI s 2526 = io (yh y) ∧ PEm s n ∧ ROm s (yg y) ∧ DBm s (yg y) (yd y) ∧ ALm s (ya y) (yc y) ∧ RUm s (yu y) R ∧ LGm s L m
def EIq : List Nat := [2526, 2546, 2548, 2550, 2522, 2524, 2525]
def EAq : List Nat := [58, 69, 68, 51, 63, 64]
theorem PEm.fr {eI eA : List Nat} {s s' : St} {n : Nat} (P : PEm s n) (f : Fr eI eA s s') (d : 2532 ∉ eI := by decide) : PEm s' n := ⟨P.1, (f.gi 2532 d).trans P.2⟩
theorem ROm.fr {eI eA : List Nat} {s s' : St} {g : RG} (P : ROm s g) (f : Fr eI eA s s') (d1 : 57 ∉ eA := by decide) (d2 : 56 ∉ eA := by decide) (d3 : 58 ∉ eA := by decide) : ROm s' g := by
  unfold ROm
  rw [f.ga 57 d1, f.ga 56 d2, f.ga 58 d3]; exact P
theorem DBm.fr {eI eA : List Nat} {s s' : St} {g : RG} {d : Nat} (P : DBm s g d) (f : Fr eI eA s s') (d1 : 2548 ∉ eI := by decide) (d2 : 69 ∉ eA := by decide) : DBm s' g d := by
  unfold DBm
  rw [f.gi 2548 d1, f.ga 69 d2]; exact P
theorem ALm.fr {eI eA : List Nat} {s s' : St} {a : AG} {c : Nat} (P : ALm s a c) (f : Fr eI eA s s') (d1 : 2546 ∉ eI := by decide) (d2 : 68 ∉ eA := by decide) : ALm s' a c := by
  unfold ALm
  rw [f.gi 2546 d1, f.ga 68 d2]; exact P
/-! the long results stay -/
theorem wakes_J {F : Nat} {s s' : St} {a b : Int32} (h : f_M_wakes F s a b = some s') : gJ s' = gJ s := by
  simp only [f_M_wakes, Option.bind_eq_some_iff, lt_def] at h
  obtain ⟨j1, -, j2, -, h⟩ := h
  cases h; rfl
theorem b66_J {F : Nat} {x : Int32} : ∀ n s i s', f_M_begins_b66 F n s x i = some s' → gJ s' = gJ s := by
  intro n
  induction n with
  | zero => intro s i s' h; cases h
  | succ n ih =>
    intro s i s' h
    rw [f_M_begins_b66] at h
    by_cases h1 : gI s 2546 ≤ i
    · rw [if_pos h1] at h; cases h; rfl
    · rw [if_neg h1] at h
      by_cases h2 : x = -1
      · rw [if_pos h2] at h; cases h; rfl
      · rw [if_neg h2, Option.bind_eq_some_iff] at h
        obtain ⟨⟨v, s1⟩, hv, h⟩ := h
        simp only [f_M_wokenBy, Option.bind_eq_some_iff] at hv
        obtain ⟨j1, -, hv⟩ := hv
        cases hv
        dsimp only at h
        split at h
        · rw [Option.bind_eq_some_iff] at h
          obtain ⟨s2, hw, h⟩ := h
          exact (ih _ _ _ h).trans (wakes_J hw)
        · exact ih _ _ _ h
theorem b36_J {F : Nat} {x : Int32} : ∀ n s i s', f_M_begins_b36 F n s x i = some s' → gJ s' = gJ s := by
  intro n
  induction n with
  | zero => intro s i s' h; cases h
  | succ n ih =>
    intro s i s' h
    rw [f_M_begins_b36] at h
    by_cases h1 : gI s 2548 ≤ i
    · rw [if_pos h1] at h; exact b66_J _ _ _ _ h
    · rw [if_neg h1] at h
      simp only [Option.bind_eq_some_iff, lt_def] at h
      obtain ⟨j1, -, j2, -, h⟩ := h
      exact (ih _ _ _ h).trans (gJ_sA _ _ _ _)
theorem begins_J {F : Nat} {s s1 s' : St} {j v : Int32} (hh : f_M_holderOf F s j = some (v, s1)) (e : gJ s1 = gJ s) (h : f_M_begins F s j = some s') : gJ s' = gJ s := by
  rw [f_M_begins, hh, Option.bind_some, Option.bind_eq_some_iff] at h
  obtain ⟨j2, -, h⟩ := h
  rw [lt_def] at h
  split at h
  · rw [b66_J _ _ _ _ h, gJ_sA]; exact e
  · rw [lt_def] at h
    rw [b36_J _ _ _ _ h, gJ_sI, gJ_sA]; exact e
theorem raises_J {F : Nat} {s s' : St} {x : Int32} (h : f_M_raises F s x = some s') : gJ s' = gJ s := by
  simp only [f_M_raises, Option.bind_eq_some_iff, lt_def] at h
  obtain ⟨j1, -, j4, -, j6, -, j7, -, j9, -, h⟩ := h
  split at h
  · cases h; rfl
  · rw [Option.bind_eq_some_iff] at h
    obtain ⟨s10, hw, h⟩ := h
    cases h
    rw [wakes_J hw]; rfl
/-! has a rule risen -/
theorem silM_loop {F R H k : Nat} {s : St} {x : RU} (e26 : gI s 2526 = io H) (hH : H ≤ 1000) (hk : k < 4) (e65 : gA s 65 k = io (us x).length) (hl : (us x).length ≤ 5) (hb : ∀ e ∈ us x, e.1 ≤ e.2 ∧ e.2 ≤ 1000) (e66 : ∀ i (h : i < (us x).length), gA s 66 (5 * k + i) = io (us x)[i].1 ∧ gA s 67 (5 * k + i) = io (us x)[i].2) : ∀ j N i b, i + j = (us x).length → j < N → b ≤ 1 → f_M_isSilent_b6 F N s (io k) (io b) (io (5 * k + i)) = some (if b = 1 ∨ silB ((us x).drop i) H = true then io 1 else io 0, s) := by
  intro j
  induction j with
  | zero =>
    intro N i b hi hN hb1
    obtain ⟨N, rfl⟩ : ∃ N', N = N' + 1 := ⟨N - 1, by omega⟩
    have hi' : i = (us x).length := by omega
    have e : silB ((us x).drop i) H = false := by rw [hi', List.drop_length]; rfl
    rw [e]
    have q1 : 5 * k + (us x).length ≤ 5 * k + i := by omega
    rcases (by omega : b = 0 ∨ b = 1) with rfl | rfl
    · simp (disch := omega) only [f_M_isSilent_b6, Option.bind_some, Nat.reduceEqDiff, Nat.add_zero, Nat.zero_add, Nat.reduceLT, Nat.reduceLeDiff, Nat.reduceAdd, Nat.reduceSub, Nat.reduceMul, Nat.reduceDiv, Nat.lt_irrefl, Nat.not_lt_zero, Nat.zero_le, Nat.one_ne_zero, Nat.succ_ne_zero,  lt_def, i32_lit, reduceIte, P_isIn_eq, M_isIn_eq, M_goes_eq, or_false, false_or, or_true, true_or, and_true, true_and, and_false, false_and, not_true, not_false_eq_true, eq_self, if_true, if_false, not_or, not_and, Nat.not_lt, Nat.not_le, ix_io, e65, io_mul, io_add, io_le, q1, io_eq, reduceCtorEq]
    · simp (disch := omega) only [f_M_isSilent_b6, Option.bind_some, Nat.reduceEqDiff, Nat.add_zero, Nat.zero_add, Nat.reduceLT, Nat.reduceLeDiff, Nat.reduceAdd, Nat.reduceSub, Nat.reduceMul, Nat.reduceDiv, Nat.lt_irrefl, Nat.not_lt_zero, Nat.zero_le, Nat.one_ne_zero, Nat.succ_ne_zero,  lt_def, i32_lit, reduceIte, P_isIn_eq, M_isIn_eq, M_goes_eq, or_false, false_or, or_true, true_or, and_true, true_and, and_false, false_and, not_true, not_false_eq_true, eq_self, if_true, if_false, not_or, not_and, Nat.not_lt, Nat.not_le, ix_io, e65, io_mul, io_add, io_le, q1, io_eq, reduceCtorEq]
  | succ j ih =>
    intro N i b hi hN hb1
    obtain ⟨N, rfl⟩ : ∃ N', N = N' + 1 := ⟨N - 1, by omega⟩
    have hil : i < (us x).length := by omega
    have n1 : ¬ 5 * k + (us x).length ≤ 5 * k + i := by omega
    obtain ⟨b1, b2⟩ := e66 i hil
    have hbi := hb (us x)[i] (List.getElem_mem hil)
    have es : silB ((us x).drop i) H = (decide ((us x)[i].1 ≤ H ∧ H ≤ (us x)[i].2) || silB ((us x).drop (i + 1)) H) := by rw [List.drop_eq_getElem_cons hil]; rfl
    have i0 := ih N (i + 1) 0 (by omega) (by omega) (by omega)
    have i1 := ih N (i + 1) 1 (by omega) (by omega) (by omega)
    have e5 : 5 * k + (i + 1) = 5 * k + i + 1 := by omega
    rw [e5] at i0 i1
    rw [if_pos (Or.inl rfl)] at i1
    rcases (by omega : b = 0 ∨ b = 1) with rfl | rfl
    · by_cases hc : (us x)[i].1 ≤ H ∧ H ≤ (us x)[i].2
      · have q1 : ¬ H < (us x)[i].1 := by omega
        have q2 : ¬ (us x)[i].2 < H := by omega
        rw [es, decide_eq_true hc, Bool.true_or, if_pos (Or.inr rfl), ← i1]
        simp (disch := omega) only [f_M_isSilent_b6, Option.bind_some, Nat.reduceEqDiff, Nat.add_zero, Nat.zero_add, Nat.reduceLT, Nat.reduceLeDiff, Nat.reduceAdd, Nat.reduceSub, Nat.reduceMul, Nat.reduceDiv, Nat.lt_irrefl, Nat.not_lt_zero, Nat.zero_le, Nat.one_ne_zero, Nat.succ_ne_zero,  lt_def, i32_lit, reduceIte, P_isIn_eq, M_isIn_eq, M_goes_eq, or_false, false_or, or_true, true_or, and_true, true_and, and_false, false_and, not_true, not_false_eq_true, eq_self, if_true, if_false, not_or, not_and, Nat.not_lt, Nat.not_le, ix_io, e65, io_mul, io_add, io_le, n1, io_eq, e26, b1, b2, io_lt, q1, q2]
      · have e0 : (if (0 : Nat) = 1 ∨ silB ((us x).drop i) H = true then io 1 else io 0) = (if (0 : Nat) = 1 ∨ silB ((us x).drop (i + 1)) H = true then io 1 else io 0) := by
          rw [es, decide_eq_false hc, Bool.false_or]
        rw [e0, ← i0]
        rcases (by omega : H < (us x)[i].1 ∨ (us x)[i].2 < H) with q1 | q1
        · simp (disch := omega) only [f_M_isSilent_b6, Option.bind_some, Nat.reduceEqDiff, Nat.add_zero, Nat.zero_add, Nat.reduceLT, Nat.reduceLeDiff, Nat.reduceAdd, Nat.reduceSub, Nat.reduceMul, Nat.reduceDiv, Nat.lt_irrefl, Nat.not_lt_zero, Nat.zero_le, Nat.one_ne_zero, Nat.succ_ne_zero,  lt_def, i32_lit, reduceIte, P_isIn_eq, M_isIn_eq, M_goes_eq, or_false, false_or, or_true, true_or, and_true, true_and, and_false, false_and, not_true, not_false_eq_true, eq_self, if_true, if_false, not_or, not_and, Nat.not_lt, Nat.not_le, ix_io, e65, io_mul, io_add, io_le, n1, io_eq, e26, b1, b2, io_lt, q1]
        · simp (disch := omega) only [f_M_isSilent_b6, Option.bind_some, Nat.reduceEqDiff, Nat.add_zero, Nat.zero_add, Nat.reduceLT, Nat.reduceLeDiff, Nat.reduceAdd, Nat.reduceSub, Nat.reduceMul, Nat.reduceDiv, Nat.lt_irrefl, Nat.not_lt_zero, Nat.zero_le, Nat.one_ne_zero, Nat.succ_ne_zero,  lt_def, i32_lit, reduceIte, P_isIn_eq, M_isIn_eq, M_goes_eq, or_false, false_or, or_true, true_or, and_true, true_and, and_false, false_and, not_true, not_false_eq_true, eq_self, if_true, if_false, not_or, not_and, Nat.not_lt, Nat.not_le, ix_io, e65, io_mul, io_add, io_le, n1, io_eq, e26, b1, b2, io_lt, q1]
    · rw [if_pos (Or.inl rfl), ← i1]
      simp (disch := omega) only [f_M_isSilent_b6, Option.bind_some, Nat.reduceEqDiff, Nat.add_zero, Nat.zero_add, Nat.reduceLT, Nat.reduceLeDiff, Nat.reduceAdd, Nat.reduceSub, Nat.reduceMul, Nat.reduceDiv, Nat.lt_irrefl, Nat.not_lt_zero, Nat.zero_le, Nat.one_ne_zero, Nat.succ_ne_zero,  lt_def, i32_lit, reduceIte, P_isIn_eq, M_isIn_eq, M_goes_eq, or_false, false_or, or_true, true_or, and_true, true_and, and_false, false_and, not_true, not_false_eq_true, eq_self, if_true, if_false, not_or, not_and, Nat.not_lt, Nat.not_le, ix_io, e65, io_mul, io_add, io_le, n1, io_eq]
theorem isRisen_eq {F R H n k m : Nat} (hF : 5000 ≤ F) {s : St} {u : Nat → RU} {L : Nat → LR} (e26 : gI s 2526 = io H) (h1 : 1 ≤ H) (hH : H ≤ 1000) (M : RUm s u R) (G : RG1 H n (u k)) (LM : LGm s L m) (LG : LGg L m (H - 1)) (hk : k < R) (hR : R ≤ 4) :
    ∃ s', f_M_isRisen F s (io k) = some (if ud (u k) = 0 ∧ dueB L m (u k) H (ul (u k)) = true then io 1 else io 0, s') ∧ Fr [2522, 2524, 2525] [51] s s' ∧ ∀ k, k ≠ 50 → gJ s' k = gJ s k := by
  obtain ⟨g1, g2, g3, g4, g5, g6, g7, g8, g9, g10, g11, g12, g13⟩ := G
  obtain ⟨m1, m2, m3, m4, m5, m6, m7, m8, m9⟩ := M.2.1 k hk
  have hk4 : k < 4 := by omega
  -- who has rested
  obtain ⟨t0, ht0⟩ : ∃ t0, t0 = if ul (u k) = 0 ∨ ur (u k) + (ul (u k) - 1) < H then 1 else 0 := ⟨_, rfl⟩
  have hst : f_M_isRisen F s (io k) = f_M_isRisen_b34 F s (io k) (io t0) := by
    by_cases hu : ul (u k) = 0
    · have hun : un (u k) = 0 := g11.mpr hu
      rw [hun] at m5
      rw [ht0, if_pos (Or.inl hu)]
      simp (disch := omega) only [f_M_isRisen, Option.bind_some, Nat.reduceEqDiff, Nat.add_zero, Nat.zero_add, Nat.reduceLT, Nat.reduceLeDiff, Nat.reduceAdd, Nat.reduceSub, Nat.reduceMul, Nat.reduceDiv, Nat.lt_irrefl, Nat.not_lt_zero, Nat.zero_le, Nat.one_ne_zero, Nat.succ_ne_zero,  lt_def, i32_lit, reduceIte, P_isIn_eq, M_isIn_eq, M_goes_eq, or_false, false_or, or_true, true_or, and_true, true_and, and_false, false_and, not_true, not_false_eq_true, eq_self, if_true, if_false, not_or, not_and, Nat.not_lt, Nat.not_le, ix_io, m5, io_eq]
    · have hun : ¬ un (u k) = 0 := fun e => hu (g11.mp e)
      have e63 := m6 hu
      by_cases hc : ur (u k) + (ul (u k) - 1) < H
      · have n1 : ¬ H - (ul (u k) - 1) ≤ ur (u k) := by omega
        rw [ht0, if_pos (Or.inr hc)]
        simp (disch := omega) only [f_M_isRisen, Option.bind_some, Nat.reduceEqDiff, Nat.add_zero, Nat.zero_add, Nat.reduceLT, Nat.reduceLeDiff, Nat.reduceAdd, Nat.reduceSub, Nat.reduceMul, Nat.reduceDiv, Nat.lt_irrefl, Nat.not_lt_zero, Nat.zero_le, Nat.one_ne_zero, Nat.succ_ne_zero,  lt_def, i32_lit, reduceIte, P_isIn_eq, M_isIn_eq, M_goes_eq, or_false, false_or, or_true, true_or, and_true, true_and, and_false, false_and, not_true, not_false_eq_true, eq_self, if_true, if_false, not_or, not_and, Nat.not_lt, Nat.not_le, ix_io, m5, hun, io_eq, e26, e63, m3, io_sub, io_le, n1]
      · have n1 : H - (ul (u k) - 1) ≤ ur (u k) := by omega
        rw [ht0, if_neg (by omega)]
        simp (disch := omega) only [f_M_isRisen, Option.bind_some, Nat.reduceEqDiff, Nat.add_zero, Nat.zero_add, Nat.reduceLT, Nat.reduceLeDiff, Nat.reduceAdd, Nat.reduceSub, Nat.reduceMul, Nat.reduceDiv, Nat.lt_irrefl, Nat.not_lt_zero, Nat.zero_le, Nat.one_ne_zero, Nat.succ_ne_zero,  lt_def, i32_lit, reduceIte, P_isIn_eq, M_isIn_eq, M_goes_eq, or_false, false_or, or_true, true_or, and_true, true_and, and_false, false_and, not_true, not_false_eq_true, eq_self, if_true, if_false, not_or, not_and, Nat.not_lt, Nat.not_le, ix_io, m5, hun, io_eq, e26, e63, m3, io_sub, io_le, n1]
  rw [hst]
  by_cases hd : ud (u k) = 0
  · rw [if_pos hd] at m4
    obtain ⟨s1, r1, r2, r3⟩ := runs_eq (F := F) (p := k) (a0 := H + 1 - uw (u k)) (b := H) (t := H - 1) (h := H - 1) (x0 := io H - io (uw (u k)) + io 1) hF LM LG (by omega) (by omega) hH (Nat.le_refl _) (win_lt hH g5) m9 g1 g2
    have hsl := silM_loop (F := F) (R := R) (H := H) (s := s1) (x := u k) (by rw [r2.gi 2526 (by decide)]; exact e26) hH hk4 (by rw [r2.ga 65 (by decide)]; exact m7) g9 g10 (fun i hi => by rw [r2.ga 66 (by decide), r2.ga 67 (by decide)]; exact m8 i hi) (us (u k)).length F 0 0 (by omega) (by omega) (by omega)
    rw [List.drop_zero, Nat.add_zero] at hsl
    refine ⟨s1, ?_, r2, r3⟩
    unfold dueB
    generalize valQ (ev L (pks L m (H + 1 - uw (u k)) H (H - 1))) (uc (u k)) = v at r1
    by_cases hv : v = 0
    · have e0 : ¬ (ud (u k) = 0 ∧ (decide (ul (u k) = 0 ∨ ur (u k) + (ul (u k) - 1) < H) && (!silB (us (u k)) H && decide (v ≠ 0))) = true) := by
        rw [hv]; simp
      rw [hv] at r1
      rw [if_neg e0]
      simp (disch := omega) only [f_M_isRisen_b34, Option.bind_some, Nat.reduceEqDiff, Nat.add_zero, Nat.zero_add, Nat.reduceLT, Nat.reduceLeDiff, Nat.reduceAdd, Nat.reduceSub, Nat.reduceMul, Nat.reduceDiv, Nat.lt_irrefl, Nat.not_lt_zero, Nat.zero_le, Nat.one_ne_zero, Nat.succ_ne_zero,  lt_def, i32_lit, reduceIte, P_isIn_eq, M_isIn_eq, M_goes_eq, or_false, false_or, or_true, true_or, and_true, true_and, and_false, false_and, not_true, not_false_eq_true, eq_self, if_true, if_false, not_or, not_and, Nat.not_lt, Nat.not_le, ix_io, m4, io_eq, e26, m2, r1]
    · by_cases hc : ul (u k) = 0 ∨ ur (u k) + (ul (u k) - 1) < H
      · rw [if_pos hc] at ht0
        subst ht0
        by_cases hs : silB (us (u k)) H = true
        · have e0 : ¬ (ud (u k) = 0 ∧ (decide (ul (u k) = 0 ∨ ur (u k) + (ul (u k) - 1) < H) && (!silB (us (u k)) H && decide (v ≠ 0))) = true) := by
            rw [hs]; simp
          rw [if_neg e0]
          rw [if_pos (Or.inr hs)] at hsl
          simp (disch := omega) only [f_M_isRisen_b34, f_M_isSilent, Option.bind_some, Nat.reduceEqDiff, Nat.add_zero, Nat.zero_add, Nat.reduceLT, Nat.reduceLeDiff, Nat.reduceAdd, Nat.reduceSub, Nat.reduceMul, Nat.reduceDiv, Nat.lt_irrefl, Nat.not_lt_zero, Nat.zero_le, Nat.one_ne_zero, Nat.succ_ne_zero,  lt_def, i32_lit, reduceIte, P_isIn_eq, M_isIn_eq, M_goes_eq, or_false, false_or, or_true, true_or, and_true, true_and, and_false, false_and, not_true, not_false_eq_true, eq_self, if_true, if_false, not_or, not_and, Nat.not_lt, Nat.not_le, ix_io, m4, io_eq, e26, m2, r1, hv, io_mul, hsl]
        · have hsf : silB (us (u k)) H = false := by simpa using hs
          have e0 : ud (u k) = 0 ∧ (decide (ul (u k) = 0 ∨ ur (u k) + (ul (u k) - 1) < H) && (!silB (us (u k)) H && decide (v ≠ 0))) = true := by
            refine ⟨hd, ?_⟩
            rw [hsf, decide_eq_true hc, decide_eq_true hv]; rfl
          rw [if_pos e0]
          rw [if_neg (by rw [hsf]; simp)] at hsl
          simp (disch := omega) only [f_M_isRisen_b34, f_M_isSilent, Option.bind_some, Nat.reduceEqDiff, Nat.add_zero, Nat.zero_add, Nat.reduceLT, Nat.reduceLeDiff, Nat.reduceAdd, Nat.reduceSub, Nat.reduceMul, Nat.reduceDiv, Nat.lt_irrefl, Nat.not_lt_zero, Nat.zero_le, Nat.one_ne_zero, Nat.succ_ne_zero,  lt_def, i32_lit, reduceIte, P_isIn_eq, M_isIn_eq, M_goes_eq, or_false, false_or, or_true, true_or, and_true, true_and, and_false, false_and, not_true, not_false_eq_true, eq_self, if_true, if_false, not_or, not_and, Nat.not_lt, Nat.not_le, ix_io, m4, io_eq, e26, m2, r1, hv, io_mul, hsl]
      · rw [if_neg hc] at ht0
        subst ht0
        have e0 : ¬ (ud (u k) = 0 ∧ (decide (ul (u k) = 0 ∨ ur (u k) + (ul (u k) - 1) < H) && (!silB (us (u k)) H && decide (v ≠ 0))) = true) := by
          rw [decide_eq_false hc]; simp
        rw [if_neg e0]
        simp (disch := omega) only [f_M_isRisen_b34, Option.bind_some, Nat.reduceEqDiff, Nat.add_zero, Nat.zero_add, Nat.reduceLT, Nat.reduceLeDiff, Nat.reduceAdd, Nat.reduceSub, Nat.reduceMul, Nat.reduceDiv, Nat.lt_irrefl, Nat.not_lt_zero, Nat.zero_le, Nat.one_ne_zero, Nat.succ_ne_zero,  lt_def, i32_lit, reduceIte, P_isIn_eq, M_isIn_eq, M_goes_eq, or_false, false_or, or_true, true_or, and_true, true_and, and_false, false_and, not_true, not_false_eq_true, eq_self, if_true, if_false, not_or, not_and, Nat.not_lt, Nat.not_le, ix_io, m4, io_eq, e26, m2, r1, hv]
  · rw [if_neg hd] at m4
    rw [if_neg (fun h => hd h.1)]
    refine ⟨s, ?_, Fr.rf, fun _ _ => rfl⟩
    simp (disch := omega) only [f_M_isRisen_b34, Option.bind_some, Nat.reduceEqDiff, Nat.add_zero, Nat.zero_add, Nat.reduceLT, Nat.reduceLeDiff, Nat.reduceAdd, Nat.reduceSub, Nat.reduceMul, Nat.reduceDiv, Nat.lt_irrefl, Nat.not_lt_zero, Nat.zero_le, Nat.one_ne_zero, Nat.succ_ne_zero,  lt_def, i32_lit, reduceIte, P_isIn_eq, M_isIn_eq, M_goes_eq, or_false, false_or, or_true, true_or, and_true, true_and, and_false, false_and, not_true, not_false_eq_true, eq_self, if_true, if_false, not_or, not_and, Nat.not_lt, Nat.not_le, ix_io, m4, io_eq]
