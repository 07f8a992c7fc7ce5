/-! a rule is made silent -/
theorem isRange_badG {F l g : Nat} {s : St} {a b : Int32} (hab : (a < io l ∨ io g < a) ∨ (¬ (a < io l ∨ io g < a) ∧ (b < a ∨ io g < b))) : f_P_isRange F s a b (io l) (io g) = some (io 0, s) := by
  rcases hab with h1 | ⟨h1, h2⟩
  · simp (disch := omega) only [f_P_isRange, Option.bind_some, Nat.reduceEqDiff, Nat.add_zero, Nat.zero_add, Nat.reduceLT, Nat.reduceLeDiff, Nat.reduceAdd, Nat.reduceSub, Nat.reduceMul, Nat.reduceDiv, Nat.lt_irrefl, Nat.not_lt_zero, Nat.zero_le, Nat.one_ne_zero, Nat.succ_ne_zero,  lt_def, i32_lit, reduceIte, P_isIn_eq, M_isIn_eq, M_goes_eq, or_false, false_or, or_true, true_or, and_true, true_and, and_false, false_and, not_true, not_false_eq_true, eq_self, if_true, if_false, not_or, not_and, Nat.not_lt, Nat.not_le, h1]
  · simp (disch := omega) only [f_P_isRange, Option.bind_some, Nat.reduceEqDiff, Nat.add_zero, Nat.zero_add, Nat.reduceLT, Nat.reduceLeDiff, Nat.reduceAdd, Nat.reduceSub, Nat.reduceMul, Nat.reduceDiv, Nat.lt_irrefl, Nat.not_lt_zero, Nat.zero_le, Nat.one_ne_zero, Nat.succ_ne_zero,  lt_def, i32_lit, reduceIte, P_isIn_eq, M_isIn_eq, M_goes_eq, or_false, false_or, or_true, true_or, and_true, true_and, and_false, false_and, not_true, not_false_eq_true, eq_self, if_true, if_false, not_or, not_and, Nat.not_lt, Nat.not_le, h1, h2, io_eq]
theorem rng_cases {a b : Int32} {l g : Nat} (hl : l ≤ 2000) (hg : g ≤ 1000) : ((a < io l ∨ io g < a) ∨ (¬ (a < io l ∨ io g < a) ∧ (b < a ∨ io g < b))) ∨ ∃ a' b', a = io a' ∧ b = io b' ∧ l ≤ a' ∧ a' ≤ b' ∧ b' ≤ g := by
  rcases in_or (x := a) (a := io l) (b := io g) with ⟨n1, r1, r1'⟩ | n1
  · rcases in_or (x := b) (a := a) (b := io g) with ⟨n2, r2, r2'⟩ | n2
    · have h0 : io 0 ≤ a := by
        rw [Int32.le_iff_toInt_le, io_toInt (by omega)] at r1 ⊢
        omega
      obtain ⟨p, rfl, hp⟩ := io_in (by omega) h0 r1'
      have h3 : io 0 ≤ b := by
        rw [Int32.le_iff_toInt_le, io_toInt (by omega)] at r2 ⊢
        omega
      obtain ⟨q, rfl, hq⟩ := io_in (by omega) h3 r2'
      rw [io_le (by omega) (by omega)] at r1 r2
      exact Or.inr ⟨p, q, rfl, rfl, r1, r2, hq⟩
    · exact Or.inl (Or.inr ⟨n1, n2⟩)
  · exact Or.inl (Or.inl n1)
def uSil (x : RU) (a b : Nat) : RU := (uq x, uc x, uo x, uw x, ur x, um x, ud x, us x ++ [(a, b)], un x, ul x)
theorem dga_at {s : St} {q t : Nat} {a : Nat × (Nat → Int32)} (h : gD s q = some (.inr (.inl (t, a)))) : dga s (some q) t = some (q, a) := by
  unfold dga
  simp only [h, if_true]
theorem op_silence {F R n h m : Nat} {s : St} {u : Nat → RU} {L : Nat → LR} (H : HH s h) (C : RUc s u R) (M : RUm s u R) (G : RUg u R h n) (hS : HS L m u R h) (x a b : Int32) :
    ∃ k s1, f_L_silence F s x a b = some (k, s1) ∧ ∀ N, sz s1 ≤ N → ∃ v s2, f_M_silence F (sz' s1 N) x a b = some (v, s2) ∧ gI s2 2551 = k ∧ (k = 0 → gJ s2 70 0 = v.toInt64) ∧ FY [2551] [65, 66, 67] s s2 ∧ NM s s2 ∧ ∃ u', RUc s2 u' R ∧ RUm s2 u' R ∧ RUg u' R h n ∧ HS L m u' R h ∧ csum u' R = csum u R := by
  have hz := szlt s
  have hh := H.1
  have hR := G.1
  have e2 := H.2.1
  have e26 := H.2.2
  have bad : ∀ t N, sz s ≤ N → FY [2551] [65, 66, 67] s (sI (sz' s N) 2551 t) ∧ NM s (sI (sz' s N) 2551 t) ∧ ∃ u', RUc (sI (sz' s N) 2551 t) u' R ∧ RUm (sI (sz' s N) 2551 t) u' R ∧ RUg u' R h n ∧ HS L m u' R h ∧ csum u' R = csum u R := fun t N hN => by
    have f : Fr [2551] [] s (sI (sz' s N) 2551 t) := (Fr.rf.Z hN).I (by decide)
    exact ⟨(f.wide (eA' := [65, 66, 67]) (fun _ h => h) (fun _ h => by cases h)).fx.swD, f.nm, u, C.fr f, M.fr f, G, hS, rfl⟩
  -- the model's ways to refuse
  have mno : ∀ N (t : Int32), t = io 1 ∨ t = io 2 ∨ t = io 3 → f_M_silence_b71 F (sz' s N) x a b t = some (io 0, sI (sz' s N) 2551 t) := fun N t ht => by
    rcases ht with rfl | rfl | rfl <;> simp (disch := omega) only [f_M_silence_b71, Option.bind_some, Nat.reduceEqDiff, Nat.add_zero, Nat.zero_add, Nat.reduceLT, Nat.reduceLeDiff, Nat.reduceAdd, Nat.reduceSub, Nat.reduceMul, Nat.reduceDiv, Nat.lt_irrefl, Nat.not_lt_zero, Nat.zero_le, Nat.one_ne_zero, Nat.succ_ne_zero,  lt_def, i32_lit, reduceIte, P_isIn_eq, M_isIn_eq, M_goes_eq, or_false, false_or, or_true, true_or, and_true, true_and, and_false, false_and, not_true, not_false_eq_true, eq_self, if_true, if_false, not_or, not_and, Nat.not_lt, Nat.not_le, io_eq]
  by_cases hx : ∃ r, r < R ∧ x = io r
  · obtain ⟨r, hr, rfl⟩ := hx
    obtain ⟨o, nq, d1, k1, k2, k3, k4, k5, k8, k9, k10, k0, k6, k7, kT, kD⟩ := (C.2 r hr).2.dg
    have hne : ¬ some (uq (u r)) = none := by simp
    obtain ⟨m1, m2, m3, m4, m5, m6, m7, m8, m9⟩ := M.2.1 r hr
    obtain ⟨g1, g2, g3, g4, g5, g6, g7, g8, g9, g10, g11, g12, g13⟩ := G.2.1 r hr
    have hir : ∀ N, f_M_isRule F (sz' s N) (io r) = some (io 1, sz' s N) := fun N => isRule_t M.1 hR hr
    rcases rng_cases (a := a) (b := b) (l := h + 1) (g := 1000) (by omega) (Nat.le_refl _) with hbad | ⟨a, b, rfl, rfl, hla, hab, hb⟩
    · refine ⟨io 2, s, ?_, fun N hN => ⟨io 0, sI (sz' s N) 2551 (io 2), ?_, rfl, fun h => absurd h (by decide), bad _ N hN⟩⟩
      · have hrb := isRange_badG (F := F) (s := s) hbad
        simp (disch := omega) only [f_L_silence, f_P_silence, Option.bind_some, Nat.reduceEqDiff, Nat.add_zero, Nat.zero_add, Nat.reduceLT, Nat.reduceLeDiff, Nat.reduceAdd, Nat.reduceSub, Nat.reduceMul, Nat.reduceDiv, Nat.lt_irrefl, Nat.not_lt_zero, Nat.zero_le, Nat.one_ne_zero, Nat.succ_ne_zero,  lt_def, i32_lit, reduceIte, P_isIn_eq, M_isIn_eq, M_goes_eq, or_false, false_or, or_true, true_or, and_true, true_and, and_false, false_and, not_true, not_false_eq_true, eq_self, if_true, if_false, not_or, not_and, Nat.not_lt, Nat.not_le, ruleAt_t C hR hr, hne, e2, io_add, hrb, io_eq, hz]
      · have hm2 := mno N (io 2) (Or.inr (Or.inl rfl))
        have e26' : gI (sz' s N) 2526 = io h := e26
        rcases hbad with n1 | ⟨n1, n2⟩
        · simp (disch := omega) only [f_M_silence, f_M_silence_b32, Option.bind_some, Nat.reduceEqDiff, Nat.add_zero, Nat.zero_add, Nat.reduceLT, Nat.reduceLeDiff, Nat.reduceAdd, Nat.reduceSub, Nat.reduceMul, Nat.reduceDiv, Nat.lt_irrefl, Nat.not_lt_zero, Nat.zero_le, Nat.one_ne_zero, Nat.succ_ne_zero,  lt_def, i32_lit, reduceIte, P_isIn_eq, M_isIn_eq, M_goes_eq, or_false, false_or, or_true, true_or, and_true, true_and, and_false, false_and, not_true, not_false_eq_true, eq_self, if_true, if_false, not_or, not_and, Nat.not_lt, Nat.not_le, e26', io_add, n1, hir N, io_eq, hm2]
        · simp (disch := omega) only [f_M_silence, f_M_silence_b32, Option.bind_some, Nat.reduceEqDiff, Nat.add_zero, Nat.zero_add, Nat.reduceLT, Nat.reduceLeDiff, Nat.reduceAdd, Nat.reduceSub, Nat.reduceMul, Nat.reduceDiv, Nat.lt_irrefl, Nat.not_lt_zero, Nat.zero_le, Nat.one_ne_zero, Nat.succ_ne_zero,  lt_def, i32_lit, reduceIte, P_isIn_eq, M_isIn_eq, M_goes_eq, or_false, false_or, or_true, true_or, and_true, true_and, and_false, false_and, not_true, not_false_eq_true, eq_self, if_true, if_false, not_or, not_and, Nat.not_lt, Nat.not_le, e26', io_add, n1, n2, hir N, io_eq, hm2]
    · have n1 : ¬ a < h + 1 := by omega
      have n2 : ¬ 1000 < a := by omega
      have n3 : ¬ b < a := by omega
      have n4 : ¬ 1000 < b := by omega
      by_cases h5 : (us (u r)).length < 5
      · obtain ⟨ln, hln⟩ : ∃ ln, ln = (us (u r)).length := ⟨_, rfl⟩
        rw [← hln] at h5 k8 m7
        obtain ⟨a1, o', g6', g7', nq', a2, a3, a4, a5, a6, a7, a8, a9, a10, a11, a12, a13, a14, a15, a16, a17⟩ := (C.2 r hr).2
        rw [kD] at a2
        cases a2
        obtain ⟨q, hq⟩ : ∃ q, q = uq (u r) := ⟨_, rfl⟩
        rw [← hq] at d1 hne kD a1 a3 a4 k6 k7
        have hrt := ruleAt_t (F := F) C hR hr
        rw [← hq] at hrt
        -- the three writes
        obtain ⟨sa, hsa⟩ : ∃ sa, sa = sD s (q + 1) (.inr (.inl (1, 5, ups g6' ln (io a)))) := ⟨_, rfl⟩
        obtain ⟨sb, hsb⟩ : ∃ sb, sb = sD sa (q + 2) (.inr (.inl (1, 5, ups g7' ln (io b)))) := ⟨_, rfl⟩
        obtain ⟨sc, hsc⟩ : ∃ sc, sc = sF sb (q, o) 6 (ups o.1 8 (io (ln + 1)), o.2) := ⟨_, rfl⟩
        have ga : ∀ p, gD sa p = if p = q + 1 then some (.inr (.inl (1, 5, ups g6' ln (io a)))) else gD s p := fun p => by rw [hsa, gD_sD]
        have gb : ∀ p, gD sb p = if p = q + 2 then some (.inr (.inl (1, 5, ups g7' ln (io b)))) else gD sa p := fun p => by rw [hsb, gD_sD]
        have gc : ∀ p, gD sc p = if p = q then some (.inl (6, (ups o.1 8 (io (ln + 1)), o.2))) else gD sb p := fun p => by rw [hsc, gD_sF]
        have d1a : dgo sa (some q) 6 = some (q, o) := dgo_at (by rw [ga, if_neg (by omega)]; exact kD)
        have d1b : dgo sb (some q) 6 = some (q, o) := dgo_at (by rw [gb, if_neg (by omega), ga, if_neg (by omega)]; exact kD)
        have d1c : dgo sc (some q) 6 = some (q, (ups o.1 8 (io (ln + 1)), o.2)) := dgo_at (by rw [gc, if_pos rfl])
        have d6 : dga s (some (q + 1)) 1 = some (q + 1, 5, g6') := dga_at a3
        have d7 : dga sa (some (q + 2)) 1 = some (q + 2, 5, g7') := dga_at (by rw [ga, if_neg (by omega)]; exact a4)
        have n5 : ¬ 4 < ln := by omega
        have n0 : ¬ ln < 0 := by omega
        have ead : f_Rule_addSilence F s (some q) (io a) (io b) = some sc := by
          rw [hsc]
          simp (disch := omega) only [f_Rule_addSilence, Option.bind_some, Nat.reduceEqDiff, Nat.add_zero, Nat.zero_add, Nat.reduceLT, Nat.reduceLeDiff, Nat.reduceAdd, Nat.reduceSub, Nat.reduceMul, Nat.reduceDiv, Nat.lt_irrefl, Nat.not_lt_zero, Nat.zero_le, Nat.one_ne_zero, Nat.succ_ne_zero,  lt_def, i32_lit, reduceIte, P_isIn_eq, M_isIn_eq, M_goes_eq, or_false, false_or, or_true, true_or, and_true, true_and, and_false, false_and, not_true, not_false_eq_true, eq_self, if_true, if_false, not_or, not_and, Nat.not_lt, Nat.not_le, d1, k8, io_lt, n0, n5, io_eq, k6, d6, ix_io, ← hsa, d1a, k7, d7, ← hsb, d1b, io_add]
        have h8 : (ups o.1 8 (io (ln + 1))) 8 = io (ln + 1) := if_pos rfl
        obtain ⟨x', hx'⟩ : ∃ x', x' = uSil (u r) a b := ⟨_, rfl⟩
        have hxq : uq x' = uq (u r) := by rw [hx']; rfl
        refine ⟨io 0, sJ sc 70 0 (io (ln + 1)).toInt64, ?_, fun N hN => ?_⟩
        · have hir1 : f_P_isRange F s (io a) (io b) (io (h + 1)) (io 1000) = some (io 1, s) := by
            simp (disch := omega) only [f_P_isRange, Option.bind_some, Nat.reduceEqDiff, Nat.add_zero, Nat.zero_add, Nat.reduceLT, Nat.reduceLeDiff, Nat.reduceAdd, Nat.reduceSub, Nat.reduceMul, Nat.reduceDiv, Nat.lt_irrefl, Nat.not_lt_zero, Nat.zero_le, Nat.one_ne_zero, Nat.succ_ne_zero,  lt_def, i32_lit, reduceIte, P_isIn_eq, M_isIn_eq, M_goes_eq, or_false, false_or, or_true, true_or, and_true, true_and, and_false, false_and, not_true, not_false_eq_true, eq_self, if_true, if_false, not_or, not_and, Nat.not_lt, Nat.not_le, io_lt, n1, n2, n3, n4, io_eq]
          simp (disch := omega) only [f_L_silence, f_P_silence, Option.bind_some, Nat.reduceEqDiff, Nat.add_zero, Nat.zero_add, Nat.reduceLT, Nat.reduceLeDiff, Nat.reduceAdd, Nat.reduceSub, Nat.reduceMul, Nat.reduceDiv, Nat.lt_irrefl, Nat.not_lt_zero, Nat.zero_le, Nat.one_ne_zero, Nat.succ_ne_zero,  lt_def, i32_lit, reduceIte, P_isIn_eq, M_isIn_eq, M_goes_eq, or_false, false_or, or_true, true_or, and_true, true_and, and_false, false_and, not_true, not_false_eq_true, eq_self, if_true, if_false, not_or, not_and, Nat.not_lt, Nat.not_le, hrt, hne, e2, io_add, hir1, io_eq, d1, k8, io_lt, h5, ead, d1c, h8]
        · have hN' : sz s ≤ N := by rw [hsc, hsb, hsa] at hN; exact hN
          obtain ⟨s2, hs2⟩ : ∃ s2, s2 = sA (sA (sA (sI (sz' (sJ sc 70 0 (io (ln + 1)).toInt64) N) 2551 (io 0)) 66 (5 * r + ln) (io a)) 67 (5 * r + ln) (io b)) 65 r (io (ln + 1)) := ⟨_, rfl⟩
          have eI : ∀ k, gI sc k = gI s k := fun k => by rw [hsc, hsb, hsa]; rfl
          have eA : gA sc = gA s := by rw [hsc, hsb, hsa]; rfl
          have eQ : gQ sc = gQ s := by rw [hsc, hsb, hsa]; rfl
          have eI2 : ∀ k, k ≠ 2551 → gI s2 k = gI s k := fun k hk => by
            rw [hs2]
            show (if k = 2551 then io 0 else gI sc k) = _
            rw [if_neg hk, eI]
          have eA2 : ∀ k, k ≠ 65 → k ≠ 66 → k ≠ 67 → gA s2 k = gA s k := fun k h1 h2 h3 => by
            funext j
            rw [hs2, gA_sA, if_neg h1, gA_sA, if_neg h3, gA_sA, if_neg h2, ← eA]; rfl
          have e65 : ∀ k, gA s2 65 k = if k = r then io (ln + 1) else gA s 65 k := fun k => by
            rw [hs2]
            simp only [gI_sI, gI_sA, gI_sL, gI_sJ, gI_sR, gI_sQ, gI_sD, gI_sN, gI_sz, gA_sI, gA_sA, gA_sL, gA_sJ, gA_sR, gA_sQ, gA_sD, gA_sN, gA_sz, gL_sI, gL_sA, gL_sL, gL_sJ, gL_sR, gL_sQ, gL_sD, gL_sN, gL_sz, gJ_sI, gJ_sA, gJ_sL, gJ_sJ, gJ_sR, gJ_sQ, gJ_sD, gJ_sN, gJ_sz, gR_sI, gR_sA, gR_sL, gR_sJ, gR_sR, gR_sQ, gR_sD, gR_sN, gR_sz, gQ_sI, gQ_sA, gQ_sL, gQ_sJ, gQ_sR, gQ_sQ, gQ_sD, gQ_sN, gQ_sz, gD_sI, gD_sA, gD_sL, gD_sJ, gD_sR, gD_sQ, gD_sD, gD_sN, gD_sz, sz_sI, sz_sA, sz_sL, sz_sJ, sz_sR, sz_sQ, sz_sD, sz_sN, sz_sz, reduceIte, Nat.reduceEqDiff, eA]
          have e66 : ∀ k, gA s2 66 k = if k = 5 * r + ln then io a else gA s 66 k := fun k => by
            rw [hs2]
            simp only [gI_sI, gI_sA, gI_sL, gI_sJ, gI_sR, gI_sQ, gI_sD, gI_sN, gI_sz, gA_sI, gA_sA, gA_sL, gA_sJ, gA_sR, gA_sQ, gA_sD, gA_sN, gA_sz, gL_sI, gL_sA, gL_sL, gL_sJ, gL_sR, gL_sQ, gL_sD, gL_sN, gL_sz, gJ_sI, gJ_sA, gJ_sL, gJ_sJ, gJ_sR, gJ_sQ, gJ_sD, gJ_sN, gJ_sz, gR_sI, gR_sA, gR_sL, gR_sJ, gR_sR, gR_sQ, gR_sD, gR_sN, gR_sz, gQ_sI, gQ_sA, gQ_sL, gQ_sJ, gQ_sR, gQ_sQ, gQ_sD, gQ_sN, gQ_sz, gD_sI, gD_sA, gD_sL, gD_sJ, gD_sR, gD_sQ, gD_sD, gD_sN, gD_sz, sz_sI, sz_sA, sz_sL, sz_sJ, sz_sR, sz_sQ, sz_sD, sz_sN, sz_sz, reduceIte, Nat.reduceEqDiff, eA]
          have e67 : ∀ k, gA s2 67 k = if k = 5 * r + ln then io b else gA s 67 k := fun k => by
            rw [hs2]
            simp only [gI_sI, gI_sA, gI_sL, gI_sJ, gI_sR, gI_sQ, gI_sD, gI_sN, gI_sz, gA_sI, gA_sA, gA_sL, gA_sJ, gA_sR, gA_sQ, gA_sD, gA_sN, gA_sz, gL_sI, gL_sA, gL_sL, gL_sJ, gL_sR, gL_sQ, gL_sD, gL_sN, gL_sz, gJ_sI, gJ_sA, gJ_sL, gJ_sJ, gJ_sR, gJ_sQ, gJ_sD, gJ_sN, gJ_sz, gR_sI, gR_sA, gR_sL, gR_sJ, gR_sR, gR_sQ, gR_sD, gR_sN, gR_sz, gQ_sI, gQ_sA, gQ_sL, gQ_sJ, gQ_sR, gQ_sQ, gQ_sD, gQ_sN, gQ_sz, gD_sI, gD_sA, gD_sL, gD_sJ, gD_sR, gD_sQ, gD_sD, gD_sN, gD_sz, sz_sI, sz_sA, sz_sL, sz_sJ, sz_sR, sz_sQ, sz_sD, sz_sN, sz_sz, reduceIte, Nat.reduceEqDiff, eA]
          have hgD : ∀ p, gD s2 p = gD sc p := fun p => by rw [hs2]; rfl
          have fy : FY [2551] [65, 66, 67] s s2 := by
            refine ⟨fun k hk => eI2 k (fun e => hk (by rw [e]; decide)), fun k hk => eA2 k (fun e => hk (by rw [e]; decide)) (fun e => hk (by rw [e]; decide)) (fun e => hk (by rw [e]; decide)), rfl, rfl, ?_⟩
            show sz s ≤ sz s2
            rw [hs2]; exact hN'
          have nm : NM s s2 := ⟨by rw [hs2]; exact hN', fun p o2 hp hp2 => by
            rw [hgD, gc]
            by_cases e : p = q
            · rw [e, kD] at hp2; cases hp2
            · rw [if_neg e, gb]
              by_cases e2 : p = q + 2
              · rw [e2, a4] at hp2; cases hp2
              · rw [if_neg e2, ga]
                by_cases e3 : p = q + 1
                · rw [e3, a3] at hp2; cases hp2
                · rw [if_neg e3]; exact hp2⟩
          have hus : us x' = us (u r) ++ [(a, b)] := by rw [hx']; rfl
          have hul : (us x').length = ln + 1 := by rw [hus, List.length_append, ← hln]; rfl
          have hget : ∀ i (hi : i < (us x').length), (i = ln ∧ (us x')[i] = (a, b)) ∨ (∃ hi2 : i < (us (u r)).length, i ≠ ln ∧ (us x')[i] = (us (u r))[i]) := fun i hi => by
            rw [hul] at hi
            by_cases e : i = ln
            · left
              refine ⟨e, ?_⟩
              subst e
              simp only [hus]
              rw [List.getElem_append_right (by omega)]
              simp [hln]
            · right
              have hi2 : i < (us (u r)).length := by omega
              refine ⟨hi2, e, ?_⟩
              simp only [hus]
              rw [List.getElem_append_left hi2]
          refine ⟨io (ln + 1), s2, ?_, by rw [hs2]; rfl, fun _ => by rw [hs2]; rfl, fy, nm, ups u r x', ?_, ?_, ?_, ?_, csum_upd (by rw [hx']; rfl) R⟩
          · have e26' : gI (sz' (sJ sc 70 0 (io (ln + 1)).toInt64) N) 2526 = io h := (eI 2526).trans e26
            have e36' : gI (sz' (sJ sc 70 0 (io (ln + 1)).toInt64) N) 2536 = io R := (eI 2536).trans M.1
            have hir2 := isRule_t (F := F) e36' hR hr
            have e65' : gA (sz' (sJ sc 70 0 (io (ln + 1)).toInt64) N) 65 r = io ln := by
              show gA sc 65 r = _
              rw [eA]; exact m7
            have n6 : ¬ ln = 5 := by omega
            have hr20 : 5 * r + ln < 20 := by omega
            rw [hs2]
            simp (disch := omega) only [f_M_silence, f_M_silence_b32, f_M_silence_b71, Option.bind_some, Nat.reduceEqDiff, Nat.add_zero, Nat.zero_add, Nat.reduceLT, Nat.reduceLeDiff, Nat.reduceAdd, Nat.reduceSub, Nat.reduceMul, Nat.reduceDiv, Nat.lt_irrefl, Nat.not_lt_zero, Nat.zero_le, Nat.one_ne_zero, Nat.succ_ne_zero,  lt_def, i32_lit, reduceIte, P_isIn_eq, M_isIn_eq, M_goes_eq, or_false, false_or, or_true, true_or, and_true, true_and, and_false, false_and, not_true, not_false_eq_true, eq_self, if_true, if_false, not_or, not_and, Nat.not_lt, Nat.not_le, e26', io_add, io_lt, n1, n2, n3, n4, hir2, io_eq, ix_io, e65', n6, gA_sI, io_mul, gA_sA]
          · refine C.upd G hr hxq (fun p hp hps => ?_) nm ((eI2 4 (by decide))) (by rw [hs2]; exact eQ) ?_
            · rw [hxq, ← hq] at hp
              rw [hgD, gc, if_neg (by omega), gb, if_neg (by omega), ga, if_neg (by omega)]
            · refine ⟨by rw [hxq, ← hq, hs2]; exact Nat.lt_of_lt_of_le a1 hN', (ups o.1 8 (io (ln + 1)), o.2), ups g6' ln (io a), ups g7' ln (io b), nq', by rw [hxq, ← hq, hgD, gc, if_pos rfl], by rw [hxq, ← hq, hgD, gc, if_neg (by omega), gb, if_neg (by omega), ga, if_pos rfl], by rw [hxq, ← hq, hgD, gc, if_neg (by omega), gb, if_pos rfl], ?_⟩
              refine ⟨by rw [hx']; exact k1, by rw [hx']; exact k2, by rw [hx']; exact k3, by rw [hx']; exact k4, by rw [hx']; exact k5, by rw [hul]; exact h8, by rw [hx']; exact k9, by rw [hx']; exact k10, a13, by rw [hxq, ← hq]; exact k6, by rw [hxq, ← hq]; exact k7, by rw [hx']; exact TQ.nm nm _ _ _ a16, fun i hi => ?_⟩
              rcases hget i hi with ⟨e, e2⟩ | ⟨hi2, e, e2⟩
              · rw [e2, e]
                exact ⟨if_pos rfl, if_pos rfl⟩
              · rw [e2]
                exact ⟨(if_neg e).trans (a17 i hi2).1, (if_neg e).trans (a17 i hi2).2⟩
          · have hpg : ∀ k c, PG s k c → PG s2 k c := fun k c hp => by
              unfold PG row at *
              rw [eA2 41 (by decide) (by decide) (by decide), eA2 42 (by decide) (by decide) (by decide), eA2 43 (by decide) (by decide) (by decide), eA2 44 (by decide) (by decide) (by decide), eA2 45 (by decide) (by decide) (by decide)]
              exact hp
            refine M.upd hr (eI2 2536 (by decide)) (fun k hk hkr hm => ?_) ?_ (fun k hk hk4 => ?_)
            · obtain ⟨b1, b2, b3, b4, b5, b6, b7, b8, b9⟩ := hm
              have hkl := (G.2.1 k hk).2.2.2.2.2.2.2.2.1
              refine ⟨by rw [eA2 59 (by decide) (by decide) (by decide)]; exact b1, by rw [eA2 60 (by decide) (by decide) (by decide)]; exact b2, by rw [eA2 61 (by decide) (by decide) (by decide)]; exact b3, by rw [eA2 62 (by decide) (by decide) (by decide)]; exact b4, by rw [eA2 64 (by decide) (by decide) (by decide)]; exact b5, by rw [eA2 63 (by decide) (by decide) (by decide)]; exact b6, by rw [e65, if_neg hkr]; exact b7, fun i hi => ?_, hpg _ _ b9⟩
              rw [e66, e67, if_neg (by omega), if_neg (by omega)]
              exact b8 i hi
            · refine ⟨by rw [hx', eA2 59 (by decide) (by decide) (by decide)]; exact m1, by rw [hx', eA2 60 (by decide) (by decide) (by decide)]; exact m2, by rw [hx', eA2 61 (by decide) (by decide) (by decide)]; exact m3, by rw [hx', eA2 62 (by decide) (by decide) (by decide)]; exact m4, by rw [hx', eA2 64 (by decide) (by decide) (by decide)]; exact m5, by rw [hx', eA2 63 (by decide) (by decide) (by decide)]; exact m6, by rw [hul, e65, if_pos rfl], fun i hi => ?_, by rw [hx']; exact hpg _ _ m9⟩
              rcases hget i hi with ⟨e, e2⟩ | ⟨hi2, e, e2⟩
              · rw [e2, e66, e67, if_pos (by omega), if_pos (by omega)]
                exact ⟨rfl, rfl⟩
              · rw [e2, e66, e67, if_neg (by omega), if_neg (by omega)]
                exact m8 i hi2
            · rw [e65, if_neg (by omega), eA2 62 (by decide) (by decide) (by decide), eA2 64 (by decide) (by decide) (by decide)]
              exact ⟨rfl, rfl, rfl⟩
          · refine G.upd hr hxq ?_
            refine ⟨by rw [hx']; exact g1, by rw [hx']; exact g2, by rw [hx']; exact g3, by rw [hx']; exact g4, by rw [hx']; exact g5, by rw [hx']; exact g6, by rw [hx']; exact g7, by rw [hx']; exact g8, by rw [hul]; omega, fun e he => ?_, by rw [hx']; exact g11, by rw [hx']; exact g12, by rw [hx']; exact g13⟩
            rw [hus] at he
            rcases List.mem_append.mp he with he | he
            · exact g10 e he
            · rw [List.mem_singleton.mp he]; exact ⟨hab, hb⟩
          · refine hS.upd ?_
            have h8 := hS r hr
            have hend : uend (u r) h ≤ h := by
              unfold uend
              by_cases e : ud (u r) = 0
              · rw [if_pos e]; exact Nat.le_refl _
              · rw [if_neg e]
                rcases g8 with g8 | g8
                · exact absurd g8 e
                · omega
            rw [hx']
            show rcn L m (uSil (u r) a b) (uend (u r) h - um (u r)) = (un (u r), ul (u r))
            rw [rcn_congr (x := u r) (y := uSil (u r) a b) rfl _ (fun th l t1 t2 => ?_)]
            · exact h8
            · have hs : silB (us (u r) ++ [(a, b)]) th = silB (us (u r)) th := by
                unfold silB
                rw [List.any_append]
                have : [(a, b)].any (fun e => decide (e.1 ≤ th ∧ th ≤ e.2)) = false := by
                  show (decide (a ≤ th ∧ th ≤ b) || false) = false
                  rw [Bool.or_false, decide_eq_false_iff_not]
                  omega
                rw [this, Bool.or_false]
              show (decide (l = 0 ∨ ur (u r) + (l - 1) < th) && (!silB (us (u r) ++ [(a, b)]) th && _)) = _
              rw [hs]
              rfl
      · have h5' : (us (u r)).length = 5 := by omega
        rw [h5'] at k8 m7
        refine ⟨io 3, s, ?_, fun N hN => ⟨io 0, sI (sz' s N) 2551 (io 3), ?_, rfl, fun h => absurd h (by decide), bad _ N hN⟩⟩
        · have hir1 : f_P_isRange F s (io a) (io b) (io (h + 1)) (io 1000) = some (io 1, s) := by
            simp (disch := omega) only [f_P_isRange, Option.bind_some, Nat.reduceEqDiff, Nat.add_zero, Nat.zero_add, Nat.reduceLT, Nat.reduceLeDiff, Nat.reduceAdd, Nat.reduceSub, Nat.reduceMul, Nat.reduceDiv, Nat.lt_irrefl, Nat.not_lt_zero, Nat.zero_le, Nat.one_ne_zero, Nat.succ_ne_zero,  lt_def, i32_lit, reduceIte, P_isIn_eq, M_isIn_eq, M_goes_eq, or_false, false_or, or_true, true_or, and_true, true_and, and_false, false_and, not_true, not_false_eq_true, eq_self, if_true, if_false, not_or, not_and, Nat.not_lt, Nat.not_le, io_lt, n1, n2, n3, n4, io_eq]
          simp (disch := omega) only [f_L_silence, f_P_silence, Option.bind_some, Nat.reduceEqDiff, Nat.add_zero, Nat.zero_add, Nat.reduceLT, Nat.reduceLeDiff, Nat.reduceAdd, Nat.reduceSub, Nat.reduceMul, Nat.reduceDiv, Nat.lt_irrefl, Nat.not_lt_zero, Nat.zero_le, Nat.one_ne_zero, Nat.succ_ne_zero,  lt_def, i32_lit, reduceIte, P_isIn_eq, M_isIn_eq, M_goes_eq, or_false, false_or, or_true, true_or, and_true, true_and, and_false, false_and, not_true, not_false_eq_true, eq_self, if_true, if_false, not_or, not_and, Nat.not_lt, Nat.not_le, ruleAt_t C hR hr, hne, e2, io_add, hir1, io_eq, d1, k8, io_lt, hz]
        · have hm2 := mno N (io 3) (Or.inr (Or.inr rfl))
          have e26' : gI (sz' s N) 2526 = io h := e26
          have e65' : gA (sz' s N) 65 r = io 5 := m7
          simp (disch := omega) only [f_M_silence, f_M_silence_b32, Option.bind_some, Nat.reduceEqDiff, Nat.add_zero, Nat.zero_add, Nat.reduceLT, Nat.reduceLeDiff, Nat.reduceAdd, Nat.reduceSub, Nat.reduceMul, Nat.reduceDiv, Nat.lt_irrefl, Nat.not_lt_zero, Nat.zero_le, Nat.one_ne_zero, Nat.succ_ne_zero,  lt_def, i32_lit, reduceIte, P_isIn_eq, M_isIn_eq, M_goes_eq, or_false, false_or, or_true, true_or, and_true, true_and, and_false, false_and, not_true, not_false_eq_true, eq_self, if_true, if_false, not_or, not_and, Nat.not_lt, Nat.not_le, e26', io_add, io_lt, n1, n2, n3, n4, hir N, io_eq, ix_io, e65', hm2]
  · refine ⟨io 1, s, ?_, fun N hN => ⟨io 0, sI (sz' s N) 2551 (io 1), ?_, rfl, fun h => absurd h (by decide), bad _ N hN⟩⟩
    · simp (disch := omega) only [f_L_silence, f_P_silence, Option.bind_some, Nat.reduceEqDiff, Nat.add_zero, Nat.zero_add, Nat.reduceLT, Nat.reduceLeDiff, Nat.reduceAdd, Nat.reduceSub, Nat.reduceMul, Nat.reduceDiv, Nat.lt_irrefl, Nat.not_lt_zero, Nat.zero_le, Nat.one_ne_zero, Nat.succ_ne_zero,  lt_def, i32_lit, reduceIte, P_isIn_eq, M_isIn_eq, M_goes_eq, or_false, false_or, or_true, true_or, and_true, true_and, and_false, false_and, not_true, not_false_eq_true, eq_self, if_true, if_false, not_or, not_and, Nat.not_lt, Nat.not_le, ruleAt_f C hR hx, hz]
    · have hm2 := mno N (io 1) (Or.inl rfl)
      have hir : f_M_isRule F (sz' s N) x = some (io 0, sz' s N) := isRule_f M.1 hR hx
      have e26' : gI (sz' s N) 2526 = io h := e26
      rcases rng_cases (a := a) (b := b) (l := h + 1) (g := 1000) (by omega) (Nat.le_refl _) with hbad | ⟨a, b, rfl, rfl, hla, hab, hb⟩
      · rcases hbad with n1 | ⟨n1, n2⟩
        · simp (disch := omega) only [f_M_silence, f_M_silence_b32, Option.bind_some, Nat.reduceEqDiff, Nat.add_zero, Nat.zero_add, Nat.reduceLT, Nat.reduceLeDiff, Nat.reduceAdd, Nat.reduceSub, Nat.reduceMul, Nat.reduceDiv, Nat.lt_irrefl, Nat.not_lt_zero, Nat.zero_le, Nat.one_ne_zero, Nat.succ_ne_zero,  lt_def, i32_lit, reduceIte, P_isIn_eq, M_isIn_eq, M_goes_eq, or_false, false_or, or_true, true_or, and_true, true_and, and_false, false_and, not_true, not_false_eq_true, eq_self, if_true, if_false, not_or, not_and, Nat.not_lt, Nat.not_le, e26', io_add, n1, hir, io_eq, hm2]
        · simp (disch := omega) only [f_M_silence, f_M_silence_b32, Option.bind_some, Nat.reduceEqDiff, Nat.add_zero, Nat.zero_add, Nat.reduceLT, Nat.reduceLeDiff, Nat.reduceAdd, Nat.reduceSub, Nat.reduceMul, Nat.reduceDiv, Nat.lt_irrefl, Nat.not_lt_zero, Nat.zero_le, Nat.one_ne_zero, Nat.succ_ne_zero,  lt_def, i32_lit, reduceIte, P_isIn_eq, M_isIn_eq, M_goes_eq, or_false, false_or, or_true, true_or, and_true, true_and, and_false, false_and, not_true, not_false_eq_true, eq_self, if_true, if_false, not_or, not_and, Nat.not_lt, Nat.not_le, e26', io_add, n1, n2, hir, io_eq, hm2]
      · have n1 : ¬ a < h + 1 := by omega
        have n2 : ¬ 1000 < a := by omega
        have n3 : ¬ b < a := by omega
        have n4 : ¬ 1000 < b := by omega
        simp (disch := omega) only [f_M_silence, f_M_silence_b32, Option.bind_some, Nat.reduceEqDiff, Nat.add_zero, Nat.zero_add, Nat.reduceLT, Nat.reduceLeDiff, Nat.reduceAdd, Nat.reduceSub, Nat.reduceMul, Nat.reduceDiv, Nat.lt_irrefl, Nat.not_lt_zero, Nat.zero_le, Nat.one_ne_zero, Nat.succ_ne_zero,  lt_def, i32_lit, reduceIte, P_isIn_eq, M_isIn_eq, M_goes_eq, or_false, false_or, or_true, true_or, and_true, true_and, and_false, false_and, not_true, not_false_eq_true, eq_self, if_true, if_false, not_or, not_and, Nat.not_lt, Nat.not_le, e26', io_add, io_lt, n1, n2, n3, n4, hir, io_eq, hm2]
/-! an alarm is answered -/
theorem cnt_lt {p : Nat → Bool} {i : Nat} (hi : p i = false) : ∀ c, i < c → cnt p c < c := by
  intro c
  induction c with
  | zero => intro h; omega
  | succ c ih =>
    intro h
    show cnt p c + (if p c then 1 else 0) < c + 1
    by_cases e : i = c
    · have := cnt_le p c
      rw [← e, hi]
      rw [← e] at this
      show cnt p i + 0 < i + 1
      omega
    · have := ih (by omega)
      split <;> omega
theorem cnt_one {p q : Nat → Bool} {i : Nat} (h1 : p i = false) (h2 : q i = true) (h3 : ∀ j, j ≠ i → q j = p j) : ∀ c, i < c → cnt q c = cnt p c + 1 := by
  intro c
  induction c with
  | zero => intro h; omega
  | succ c ih =>
    intro h
    show cnt q c + (if q c then 1 else 0) = cnt p c + (if p c then 1 else 0) + 1
    by_cases e : i = c
    · have : cnt q c = cnt p c := cnt_ext (fun j hj => h3 j (by omega))
      rw [this, ← e, h1, h2]; rfl
    · rw [ih (by omega), h3 c (fun e2 => e e2.symm)]
      omega
def an1 (s : St) (i : Nat) : Bool := decide (gA s 23 i = io 1)
/-- the model answers: no debt -/
theorem ansM_no {F R q t p u' d i c ow : Nat} {z : St} {vx : Int32} (hi : i < c) (hc : c ≤ 4000) (hq : q < 4) (ht : t ≤ 1000) (hp1 : 1 ≤ p) (hp : p ≤ 8) (hu : u' ≤ 1000) (how : ow < 8) (z46 : gI z 2546 = io c) (z68 : gA z 68 i = io (enc q t p u' 0)) (z59 : gA z 59 q = io ow) (z48 : gI z 2548 = io d) (vv : vx = io 0 ∨ vx = io 1) (hv : ¬ (vx = io 1 ∧ u' / 8 % 3 = 0 ∧ ow ≠ p - 1)) :
    f_M_answer F z (io i) vx = some (io d, sA (sI z 2551 (io 0)) 68 i (io (enc q t p u' 1))) := by
  have hlt := enc_lt hq ht hp hu (show 0 ≤ 1 by omega)
  have hea := enc_a (a := 0) hq ht hp hu
  have hab := ans_bits hq ht hp hu
  have heq1 := enc_q (t := t) (p := p) (u := u') (a := 1) hq
  have heu1 := enc_u (a := 1) hq ht hp hu
  have hlt1 := enc_lt hq ht hp hu (show 1 ≤ 1 by omega)
  have zwb := wokenBy_eq (F := F) (s := z) (show i < 4000 by omega) z68 hq ht hp hu (by omega)
  have zwb2 := wokenBy_eq (F := F) (s := sA (sI z 2551 (io 0)) 68 i (io (enc q t p u' 1))) (i := i) (q := q) (t := t) (p := p) (u := u') (a := 1) (by omega) (by simp only [gI_sI, gI_sA, gI_sL, gI_sJ, gI_sR, gI_sQ, gI_sD, gI_sN, gI_sz, gA_sI, gA_sA, gA_sL, gA_sJ, gA_sR, gA_sQ, gA_sD, gA_sN, gA_sz, gL_sI, gL_sA, gL_sL, gL_sJ, gL_sR, gL_sQ, gL_sD, gL_sN, gL_sz, gJ_sI, gJ_sA, gJ_sL, gJ_sJ, gJ_sR, gJ_sQ, gJ_sD, gJ_sN, gJ_sz, gR_sI, gR_sA, gR_sL, gR_sJ, gR_sR, gR_sQ, gR_sD, gR_sN, gR_sz, gQ_sI, gQ_sA, gQ_sL, gQ_sJ, gQ_sR, gQ_sQ, gQ_sD, gQ_sN, gQ_sz, gD_sI, gD_sA, gD_sL, gD_sJ, gD_sR, gD_sQ, gD_sD, gD_sN, gD_sz, sz_sI, sz_sA, sz_sL, sz_sJ, sz_sR, sz_sQ, sz_sD, sz_sN, sz_sz, reduceIte]) hq ht hp hu (by omega)
  rw [dn_pos hp1] at zwb zwb2
  have hMn := fun (s' : St) => M_night_eq (F := F) (s := s') (j := u' / 8) (by omega)
  have q1 : ¬ c - 1 < i := by omega
  have q0 : ¬ i < 0 := by omega
  have zal : f_M_isAlarm F z (io i) = some (io 1, z) := by
    simp (disch := omega) only [f_M_isAlarm, Option.bind_some, Nat.reduceEqDiff, Nat.add_zero, Nat.zero_add, Nat.reduceLT, Nat.reduceLeDiff, Nat.reduceAdd, Nat.reduceSub, Nat.reduceMul, Nat.reduceDiv, Nat.lt_irrefl, Nat.not_lt_zero, Nat.zero_le, Nat.one_ne_zero, Nat.succ_ne_zero,  lt_def, i32_lit, reduceIte, P_isIn_eq, M_isIn_eq, M_goes_eq, or_false, false_or, or_true, true_or, and_true, true_and, and_false, false_and, not_true, not_false_eq_true, eq_self, if_true, if_false, not_or, not_and, Nat.not_lt, Nat.not_le, z46, io_sub, io_lt, q0, q1, io_eq]
  have e1 : f_M_answer F z (io i) vx = f_M_answer_b40 F z (io i) vx (io 0) := by
    simp (disch := omega) only [f_M_answer, Option.bind_some, Nat.reduceEqDiff, Nat.add_zero, Nat.zero_add, Nat.reduceLT, Nat.reduceLeDiff, Nat.reduceAdd, Nat.reduceSub, Nat.reduceMul, Nat.reduceDiv, Nat.lt_irrefl, Nat.not_lt_zero, Nat.zero_le, Nat.one_ne_zero, Nat.succ_ne_zero,  lt_def, i32_lit, reduceIte, P_isIn_eq, M_isIn_eq, M_goes_eq, or_false, false_or, or_true, true_or, and_true, true_and, and_false, false_and, not_true, not_false_eq_true, eq_self, if_true, if_false, not_or, not_and, Nat.not_lt, Nat.not_le, zal, io_eq, zwb, io_neg1, ix_io, z68, io_and, io_shr, and31, and3, and15, and1023, shr2, shr12, shr16, shr26, hea]
  rw [e1]
  rcases vv with rfl | rfl
  · simp (disch := omega) only [f_M_answer_b40, Option.bind_some, Nat.reduceEqDiff, Nat.add_zero, Nat.zero_add, Nat.reduceLT, Nat.reduceLeDiff, Nat.reduceAdd, Nat.reduceSub, Nat.reduceMul, Nat.reduceDiv, Nat.lt_irrefl, Nat.not_lt_zero, Nat.zero_le, Nat.one_ne_zero, Nat.succ_ne_zero,  lt_def, i32_lit, reduceIte, P_isIn_eq, M_isIn_eq, M_goes_eq, or_false, false_or, or_true, true_or, and_true, true_and, and_false, false_and, not_true, not_false_eq_true, eq_self, if_true, if_false, not_or, not_and, Nat.not_lt, Nat.not_le, io_eq, ix_io, z68, gA_sI, gA_sA, io_or, hab, io_and, io_shr, and31, and3, and15, and1023, shr2, shr12, shr16, shr26, heq1, gI_sA, gI_sI, z48]
  · by_cases hnight : u' / 8 % 3 = 0
    · simp only [hnight, if_true] at hMn
      have hown : ow = p - 1 := Classical.byContradiction fun h => hv ⟨rfl, hnight, h⟩
      rw [hown] at z59
      simp (disch := omega) only [f_M_answer_b40, Option.bind_some, Nat.reduceEqDiff, Nat.add_zero, Nat.zero_add, Nat.reduceLT, Nat.reduceLeDiff, Nat.reduceAdd, Nat.reduceSub, Nat.reduceMul, Nat.reduceDiv, Nat.lt_irrefl, Nat.not_lt_zero, Nat.zero_le, Nat.one_ne_zero, Nat.succ_ne_zero,  lt_def, i32_lit, reduceIte, P_isIn_eq, M_isIn_eq, M_goes_eq, or_false, false_or, or_true, true_or, and_true, true_and, and_false, false_and, not_true, not_false_eq_true, eq_self, if_true, if_false, not_or, not_and, Nat.not_lt, Nat.not_le, io_eq, ix_io, z68, gA_sI, gA_sA, io_or, hab, io_and, io_shr, and31, and3, and15, and1023, shr2, shr12, shr16, shr26, heq1, heu1, z59, io_div, hMn, zwb2, gI_sA, gI_sI, z48]
    · simp only [hnight, if_false] at hMn
      simp (disch := omega) only [f_M_answer_b40, Option.bind_some, Nat.reduceEqDiff, Nat.add_zero, Nat.zero_add, Nat.reduceLT, Nat.reduceLeDiff, Nat.reduceAdd, Nat.reduceSub, Nat.reduceMul, Nat.reduceDiv, Nat.lt_irrefl, Nat.not_lt_zero, Nat.zero_le, Nat.one_ne_zero, Nat.succ_ne_zero,  lt_def, i32_lit, reduceIte, P_isIn_eq, M_isIn_eq, M_goes_eq, or_false, false_or, or_true, true_or, and_true, true_and, and_false, false_and, not_true, not_false_eq_true, eq_self, if_true, if_false, not_or, not_and, Nat.not_lt, Nat.not_le, io_eq, ix_io, z68, gA_sI, gA_sA, io_or, hab, io_and, io_shr, and31, and3, and15, and1023, shr2, shr12, shr16, shr26, heq1, heu1, z59, io_div, hMn, gI_sA, gI_sI, z48]
/-- the model answers: a debt -/
theorem ansM_yes {F R q t p u' d i c ow : Nat} {z : St} (hi : i < c) (hc : c ≤ 4000) (hd : d < 4000) (hq : q < 4) (ht : t ≤ 1000) (hp1 : 1 ≤ p) (hp : p ≤ 8) (hu : u' ≤ 1000) (how : ow < 8) (z46 : gI z 2546 = io c) (z68 : gA z 68 i = io (enc q t p u' 0)) (z59 : gA z 59 q = io ow) (z48 : gI z 2548 = io d) (hnight : u' / 8 % 3 = 0) (hown : ow ≠ p - 1) :
    f_M_answer F z (io i) (io 1) = some (io (d + 1), sI (sA (sA (sI z 2551 (io 0)) 68 i (io (enc q t p u' 1))) 69 d (io (8 * ow + (p - 1)))) 2548 (io (d + 1))) := by
  have hlt := enc_lt hq ht hp hu (show 0 ≤ 1 by omega)
  have hea := enc_a (a := 0) hq ht hp hu
  have hab := ans_bits hq ht hp hu
  have heq1 := enc_q (t := t) (p := p) (u := u') (a := 1) hq
  have heu1 := enc_u (a := 1) hq ht hp hu
  have hlt1 := enc_lt hq ht hp hu (show 1 ≤ 1 by omega)
  have zwb := wokenBy_eq (F := F) (s := z) (show i < 4000 by omega) z68 hq ht hp hu (by omega)
  have zwb2 := wokenBy_eq (F := F) (s := sA (sI z 2551 (io 0)) 68 i (io (enc q t p u' 1))) (i := i) (q := q) (t := t) (p := p) (u := u') (a := 1) (by omega) (by simp only [gI_sI, gI_sA, gI_sL, gI_sJ, gI_sR, gI_sQ, gI_sD, gI_sN, gI_sz, gA_sI, gA_sA, gA_sL, gA_sJ, gA_sR, gA_sQ, gA_sD, gA_sN, gA_sz, gL_sI, gL_sA, gL_sL, gL_sJ, gL_sR, gL_sQ, gL_sD, gL_sN, gL_sz, gJ_sI, gJ_sA, gJ_sL, gJ_sJ, gJ_sR, gJ_sQ, gJ_sD, gJ_sN, gJ_sz, gR_sI, gR_sA, gR_sL, gR_sJ, gR_sR, gR_sQ, gR_sD, gR_sN, gR_sz, gQ_sI, gQ_sA, gQ_sL, gQ_sJ, gQ_sR, gQ_sQ, gQ_sD, gQ_sN, gQ_sz, gD_sI, gD_sA, gD_sL, gD_sJ, gD_sR, gD_sQ, gD_sD, gD_sN, gD_sz, sz_sI, sz_sA, sz_sL, sz_sJ, sz_sR, sz_sQ, sz_sD, sz_sN, sz_sz, reduceIte]) hq ht hp hu (by omega)
  rw [dn_pos hp1] at zwb zwb2
  have hMn := fun (s' : St) => M_night_eq (F := F) (s := s') (j := u' / 8) (by omega)
  simp only [hnight, if_true] at hMn
  have q1 : ¬ c - 1 < i := by omega
  have q0 : ¬ i < 0 := by omega
  have zal : f_M_isAlarm F z (io i) = some (io 1, z) := by
    simp (disch := omega) only [f_M_isAlarm, Option.bind_some, Nat.reduceEqDiff, Nat.add_zero, Nat.zero_add, Nat.reduceLT, Nat.reduceLeDiff, Nat.reduceAdd, Nat.reduceSub, Nat.reduceMul, Nat.reduceDiv, Nat.lt_irrefl, Nat.not_lt_zero, Nat.zero_le, Nat.one_ne_zero, Nat.succ_ne_zero,  lt_def, i32_lit, reduceIte, P_isIn_eq, M_isIn_eq, M_goes_eq, or_false, false_or, or_true, true_or, and_true, true_and, and_false, false_and, not_true, not_false_eq_true, eq_self, if_true, if_false, not_or, not_and, Nat.not_lt, Nat.not_le, z46, io_sub, io_lt, q0, q1, io_eq]
  have e1 : f_M_answer F z (io i) (io 1) = f_M_answer_b40 F z (io i) (io 1) (io 0) := by
    simp (disch := omega) only [f_M_answer, Option.bind_some, Nat.reduceEqDiff, Nat.add_zero, Nat.zero_add, Nat.reduceLT, Nat.reduceLeDiff, Nat.reduceAdd, Nat.reduceSub, Nat.reduceMul, Nat.reduceDiv, Nat.lt_irrefl, Nat.not_lt_zero, Nat.zero_le, Nat.one_ne_zero, Nat.succ_ne_zero,  lt_def, i32_lit, reduceIte, P_isIn_eq, M_isIn_eq, M_goes_eq, or_false, false_or, or_true, true_or, and_true, true_and, and_false, false_and, not_true, not_false_eq_true, eq_self, if_true, if_false, not_or, not_and, Nat.not_lt, Nat.not_le, zal, io_eq, zwb, io_neg1, ix_io, z68, io_and, io_shr, and31, and3, and15, and1023, shr2, shr12, shr16, shr26, hea]
  have how2 : ¬ p - 1 = ow := fun e => hown e.symm
  rw [e1]
  simp (disch := omega) only [f_M_answer_b40, Option.bind_some, Nat.reduceEqDiff, Nat.add_zero, Nat.zero_add, Nat.reduceLT, Nat.reduceLeDiff, Nat.reduceAdd, Nat.reduceSub, Nat.reduceMul, Nat.reduceDiv, Nat.lt_irrefl, Nat.not_lt_zero, Nat.zero_le, Nat.one_ne_zero, Nat.succ_ne_zero,  lt_def, i32_lit, reduceIte, P_isIn_eq, M_isIn_eq, M_goes_eq, or_false, false_or, or_true, true_or, and_true, true_and, and_false, false_and, not_true, not_false_eq_true, eq_self, if_true, if_false, not_or, not_and, Nat.not_lt, Nat.not_le, io_eq, ix_io, z68, gA_sI, gA_sA, io_or, hab, io_and, io_shr, and31, and3, and15, and1023, shr2, shr12, shr16, shr26, heq1, heu1, z59, io_div, hMn, zwb2, how2, gI_sA, gI_sI, z48, io_mul, io_add]
/-- the class answers: no debt -/
theorem ansP_no {F R n h q p u' d i c w : Nat} {s : St} {u : Nat → RU} {vx : Int32} (hn : n ≤ 8) (A : AL s h n R c w) (C : RUc s u R) (G : RUg u R h n) (hi : i < c) (hiw : i < w) (hq : q < R) (hu : u' ≤ 1000) (hp1 : 1 ≤ p) (hp : p ≤ 8) (e19 : gA s 19 i = io q) (e21 : gA s 21 i = io (p - 1)) (e22 : gA s 22 i = io u') (e23 : gA s 23 i = io 0) (e74 : gI s 774 = io d) (vv : vx = io 0 ∨ vx = io 1) (hv : ¬ (vx = io 1 ∧ u' / 8 % 3 = 0 ∧ uo (u q) ≠ p - 1)) :
    f_L_answer F s (io i) vx = some (io 0, sJ (sA s 23 i (io 1)) 70 0 (io d).toInt64) := by
  have hc := A.1
  have hR := G.1
  have hpw := P_waits (F := F) A hi
  rw [if_pos hiw] at hpw
  have hPn := fun (s' : St) => P_night_eq (F := F) (s := s') (j := u' / 8) (by omega)
  have e74' : gI (sA s 23 i (io 1)) 774 = io d := e74
  rcases vv with rfl | rfl
  · simp (disch := omega) only [f_L_answer, f_P_answer, Option.bind_some, Nat.reduceEqDiff, Nat.add_zero, Nat.zero_add, Nat.reduceLT, Nat.reduceLeDiff, Nat.reduceAdd, Nat.reduceSub, Nat.reduceMul, Nat.reduceDiv, Nat.lt_irrefl, Nat.not_lt_zero, Nat.zero_le, Nat.one_ne_zero, Nat.succ_ne_zero,  lt_def, i32_lit, reduceIte, P_isIn_eq, M_isIn_eq, M_goes_eq, or_false, false_or, or_true, true_or, and_true, true_and, and_false, false_and, not_true, not_false_eq_true, eq_self, if_true, if_false, not_or, not_and, Nat.not_lt, Nat.not_le, P_has_t A hi, io_eq, hpw, ix_io, e23, e74']
  · by_cases hnight : u' / 8 % 3 = 0
    · simp only [hnight, if_true] at hPn
      have hown : uo (u q) = p - 1 := Classical.byContradiction fun h => hv ⟨rfl, hnight, h⟩
      obtain ⟨o, nq, d1, k1, -⟩ := (C.2 q hq).2.dg
      have hne : ¬ some (uq (u q)) = none := by simp
      have hC23 : RUc (sA s 23 i (io 1)) u R := C.fr (eI := []) (eA := [23]) (Fr.rf.A (by decide))
      have hrt := ruleAt_t (F := F) hC23 hR hq
      have dg23 : dgo (sA s 23 i (io 1)) (some (uq (u q))) 6 = some (uq (u q), o) := d1
      have e57 : gI (sA s 23 i (io 1)) 1157 = io c := A.2.2.2.1
      have q1 : ¬ c ≤ i := by omega
      have q2 : ¬ 4000 ≤ i := by omega
      have q0 : ¬ i < 0 := by omega
      have hhas : f_Alarms_has F (sA s 23 i (io 1)) (io i) = some (io 1, sA s 23 i (io 1)) := by
        simp (disch := omega) only [f_Alarms_has, Option.bind_some, Nat.reduceEqDiff, Nat.add_zero, Nat.zero_add, Nat.reduceLT, Nat.reduceLeDiff, Nat.reduceAdd, Nat.reduceSub, Nat.reduceMul, Nat.reduceDiv, Nat.lt_irrefl, Nat.not_lt_zero, Nat.zero_le, Nat.one_ne_zero, Nat.succ_ne_zero,  lt_def, i32_lit, reduceIte, P_isIn_eq, M_isIn_eq, M_goes_eq, or_false, false_or, or_true, true_or, and_true, true_and, and_false, false_and, not_true, not_false_eq_true, eq_self, if_true, if_false, not_or, not_and, Nat.not_lt, Nat.not_le, io_lt, q0, e57, io_le, q1, q2]
      have e19' : gA (sA s 23 i (io 1)) 19 i = io q := e19
      have e21' : gA (sA s 23 i (io 1)) 21 i = io (p - 1) := e21
      have hfor : f_P_oweForAlarm F (sA s 23 i (io 1)) (io i) = some (sA s 23 i (io 1)) := by
        simp (disch := omega) only [f_P_oweForAlarm, Option.bind_some, Nat.reduceEqDiff, Nat.add_zero, Nat.zero_add, Nat.reduceLT, Nat.reduceLeDiff, Nat.reduceAdd, Nat.reduceSub, Nat.reduceMul, Nat.reduceDiv, Nat.lt_irrefl, Nat.not_lt_zero, Nat.zero_le, Nat.one_ne_zero, Nat.succ_ne_zero,  lt_def, i32_lit, reduceIte, P_isIn_eq, M_isIn_eq, M_goes_eq, or_false, false_or, or_true, true_or, and_true, true_and, and_false, false_and, not_true, not_false_eq_true, eq_self, if_true, if_false, not_or, not_and, Nat.not_lt, Nat.not_le, hhas, io_eq, ix_io, e19', hrt, hne, dg23, k1, hown, e21']
      simp (disch := omega) only [f_L_answer, f_P_answer, Option.bind_some, Nat.reduceEqDiff, Nat.add_zero, Nat.zero_add, Nat.reduceLT, Nat.reduceLeDiff, Nat.reduceAdd, Nat.reduceSub, Nat.reduceMul, Nat.reduceDiv, Nat.lt_irrefl, Nat.not_lt_zero, Nat.zero_le, Nat.one_ne_zero, Nat.succ_ne_zero,  lt_def, i32_lit, reduceIte, P_isIn_eq, M_isIn_eq, M_goes_eq, or_false, false_or, or_true, true_or, and_true, true_and, and_false, false_and, not_true, not_false_eq_true, eq_self, if_true, if_false, not_or, not_and, Nat.not_lt, Nat.not_le, P_has_t A hi, io_eq, hpw, ix_io, e23, gA_sA, e22, io_div, hPn, hfor, e74']
    · simp only [hnight, if_false] at hPn
      simp (disch := omega) only [f_L_answer, f_P_answer, Option.bind_some, Nat.reduceEqDiff, Nat.add_zero, Nat.zero_add, Nat.reduceLT, Nat.reduceLeDiff, Nat.reduceAdd, Nat.reduceSub, Nat.reduceMul, Nat.reduceDiv, Nat.lt_irrefl, Nat.not_lt_zero, Nat.zero_le, Nat.one_ne_zero, Nat.succ_ne_zero,  lt_def, i32_lit, reduceIte, P_isIn_eq, M_isIn_eq, M_goes_eq, or_false, false_or, or_true, true_or, and_true, true_and, and_false, false_and, not_true, not_false_eq_true, eq_self, if_true, if_false, not_or, not_and, Nat.not_lt, Nat.not_le, P_has_t A hi, io_eq, hpw, ix_io, e23, gA_sA, e22, io_div, hPn, e74']
/-- the class answers: a debt -/
theorem ansP_yes {F R n h q p u' d i c w : Nat} {s : St} {u : Nat → RU} (hn : n ≤ 8) (A : AL s h n R c w) (C : RUc s u R) (G : RUg u R h n) (hi : i < c) (hd : d < 4000) (hiw : i < w) (hq : q < R) (hu : u' ≤ 1000) (hp1 : 1 ≤ p) (hp : p ≤ 8) (e19 : gA s 19 i = io q) (e21 : gA s 21 i = io (p - 1)) (e22 : gA s 22 i = io u') (e23 : gA s 23 i = io 0) (e74 : gI s 774 = io d) (hnight : u' / 8 % 3 = 0) (hown : uo (u q) ≠ p - 1) :
    f_L_answer F s (io i) (io 1) = some (io 0, sJ (sI (sA (sA (sA s 23 i (io 1)) 16 d (io (uo (u q)))) 17 d (io (p - 1))) 774 (io (d + 1))) 70 0 (io (d + 1)).toInt64) := by
  have hc := A.1
  have hR := G.1
  have hpw := P_waits (F := F) A hi
  rw [if_pos hiw] at hpw
  have hPn := fun (s' : St) => P_night_eq (F := F) (s := s') (j := u' / 8) (by omega)
  simp only [hnight, if_true] at hPn
  have e74' : gI (sA s 23 i (io 1)) 774 = io d := e74
  have k1o : uo (u q) < n := (G.2.1 q hq).2.2.1
  obtain ⟨o, nq, d1, k1, -⟩ := (C.2 q hq).2.dg
  have hne : ¬ some (uq (u q)) = none := by simp
  have hC23 : RUc (sA s 23 i (io 1)) u R := C.fr (eI := []) (eA := [23]) (Fr.rf.A (by decide))
  have hrt := ruleAt_t (F := F) hC23 hR hq
  have dg23 : dgo (sA s 23 i (io 1)) (some (uq (u q))) 6 = some (uq (u q), o) := d1
  have e57 : gI (sA s 23 i (io 1)) 1157 = io c := A.2.2.2.1
  have q1 : ¬ c ≤ i := by omega
  have q2 : ¬ 4000 ≤ i := by omega
  have q0 : ¬ i < 0 := by omega
  have hhas : f_Alarms_has F (sA s 23 i (io 1)) (io i) = some (io 1, sA s 23 i (io 1)) := by
    simp (disch := omega) only [f_Alarms_has, Option.bind_some, Nat.reduceEqDiff, Nat.add_zero, Nat.zero_add, Nat.reduceLT, Nat.reduceLeDiff, Nat.reduceAdd, Nat.reduceSub, Nat.reduceMul, Nat.reduceDiv, Nat.lt_irrefl, Nat.not_lt_zero, Nat.zero_le, Nat.one_ne_zero, Nat.succ_ne_zero,  lt_def, i32_lit, reduceIte, P_isIn_eq, M_isIn_eq, M_goes_eq, or_false, false_or, or_true, true_or, and_true, true_and, and_false, false_and, not_true, not_false_eq_true, eq_self, if_true, if_false, not_or, not_and, Nat.not_lt, Nat.not_le, io_lt, q0, e57, io_le, q1, q2]
  have e19' : gA (sA s 23 i (io 1)) 19 i = io q := e19
  have e21' : gA (sA s 23 i (io 1)) 21 i = io (p - 1) := e21
  have n3 : ¬ 3999 < d := by omega
  have n0 : ¬ d < 0 := by omega
  have hadd : f_Rota_addDebt F (sA s 23 i (io 1)) (io (uo (u q))) (io (p - 1)) = some (sI (sA (sA (sA s 23 i (io 1)) 16 d (io (uo (u q)))) 17 d (io (p - 1))) 774 (io (d + 1))) := by
    simp (disch := omega) only [f_Rota_addDebt, Option.bind_some, Nat.reduceEqDiff, Nat.add_zero, Nat.zero_add, Nat.reduceLT, Nat.reduceLeDiff, Nat.reduceAdd, Nat.reduceSub, Nat.reduceMul, Nat.reduceDiv, Nat.lt_irrefl, Nat.not_lt_zero, Nat.zero_le, Nat.one_ne_zero, Nat.succ_ne_zero,  lt_def, i32_lit, reduceIte, P_isIn_eq, M_isIn_eq, M_goes_eq, or_false, false_or, or_true, true_or, and_true, true_and, and_false, false_and, not_true, not_false_eq_true, eq_self, if_true, if_false, not_or, not_and, Nat.not_lt, Nat.not_le, e74', io_lt, n0, io_sub, n3, io_eq, ix_io, gI_sA, io_add]
  have hfor : f_P_oweForAlarm F (sA s 23 i (io 1)) (io i) = some (sI (sA (sA (sA s 23 i (io 1)) 16 d (io (uo (u q)))) 17 d (io (p - 1))) 774 (io (d + 1))) := by
    simp (disch := omega) only [f_P_oweForAlarm, Option.bind_some, Nat.reduceEqDiff, Nat.add_zero, Nat.zero_add, Nat.reduceLT, Nat.reduceLeDiff, Nat.reduceAdd, Nat.reduceSub, Nat.reduceMul, Nat.reduceDiv, Nat.lt_irrefl, Nat.not_lt_zero, Nat.zero_le, Nat.one_ne_zero, Nat.succ_ne_zero,  lt_def, i32_lit, reduceIte, P_isIn_eq, M_isIn_eq, M_goes_eq, or_false, false_or, or_true, true_or, and_true, true_and, and_false, false_and, not_true, not_false_eq_true, eq_self, if_true, if_false, not_or, not_and, Nat.not_lt, Nat.not_le, hhas, io_eq, ix_io, e19', hrt, hne, dg23, k1, e21', hown, hadd]
  have e74s : gI (sI (sA (sA (sA s 23 i (io 1)) 16 d (io (uo (u q)))) 17 d (io (p - 1))) 774 (io (d + 1))) 774 = io (d + 1) := by rw [gI_sI, if_pos rfl]
  simp (disch := omega) only [f_L_answer, f_P_answer, Option.bind_some, Nat.reduceEqDiff, Nat.add_zero, Nat.zero_add, Nat.reduceLT, Nat.reduceLeDiff, Nat.reduceAdd, Nat.reduceSub, Nat.reduceMul, Nat.reduceDiv, Nat.lt_irrefl, Nat.not_lt_zero, Nat.zero_le, Nat.one_ne_zero, Nat.succ_ne_zero,  lt_def, i32_lit, reduceIte, P_isIn_eq, M_isIn_eq, M_goes_eq, or_false, false_or, or_true, true_or, and_true, true_and, and_false, false_and, not_true, not_false_eq_true, eq_self, if_true, if_false, not_or, not_and, Nat.not_lt, Nat.not_le, P_has_t A hi, io_eq, hpw, ix_io, e23, gA_sA, e22, io_div, hPn, hfor, e74s]
theorem op_answer {F R n h d c w : Nat} {s : St} {u : Nat → RU} (H : HH s h) (hn : n ≤ 8) (A : AL s h n R c w) (C : RUc s u R) (M : RUm s u R) (G : RUg u R h n) (D : DB s n d) (hd : d ≤ cnt (an1 s) c) (x v : Int32) :
    ∃ k s1, f_L_answer F s x (if v = 0 then (0 : Int32) else 1) = some (k, s1) ∧ ∀ N, sz s1 ≤ N → ∃ b s2, f_M_answer F (sz' s1 N) x (if v = 0 then (0 : Int32) else 1) = some (b, s2) ∧ gI s2 2551 = k ∧ (k = 0 → gJ s2 70 0 = b.toInt64) ∧ Fr [774, 2548, 2551] [16, 17, 23, 68, 69] s s2 ∧ AL s2 h n R c w ∧ ∃ d', DB s2 n d' ∧ d' ≤ cnt (an1 s2) c := by
  have hz := szlt s
  have hh := H.1
  have hR := G.1
  have hc := A.1
  have hdl := D.1
  have vv : (if v = 0 then (0 : Int32) else 1) = io 0 ∨ (if v = 0 then (0 : Int32) else 1) = io 1 := by
    by_cases hv : v = 0
    · rw [if_pos hv]; exact Or.inl rfl
    · rw [if_neg hv]; exact Or.inr rfl
  generalize (if v = 0 then (0 : Int32) else 1) = vx at vv
  have bad : ∀ t N, sz s ≤ N → Fr [774, 2548, 2551] [16, 17, 23, 68, 69] s (sI (sz' s N) 2551 t) ∧ AL (sI (sz' s N) 2551 t) h n R c w ∧ ∃ d', DB (sI (sz' s N) 2551 t) n d' ∧ d' ≤ cnt (an1 (sI (sz' s N) 2551 t)) c := fun t N hN => by
    have f : Fr [2551] [] s (sI (sz' s N) 2551 t) := (Fr.rf.Z hN).I (by decide)
    have e : an1 (sI (sz' s N) 2551 t) = an1 s := by
      funext j
      unfold an1
      rw [f.ga 23 (by decide)]
    exact ⟨f.wide (by decide) (by decide), A.fr f, d, D.fr f, by rw [e]; exact hd⟩
  have mno : ∀ N (t : Int32), t = io 1 ∨ t = io 2 → f_M_answer_b40 F (sz' s N) x vx t = some (io 0, sI (sz' s N) 2551 t) := fun N t ht => by
    rcases ht with rfl | rfl <;> simp (disch := omega) only [f_M_answer_b40, Option.bind_some, Nat.reduceEqDiff, Nat.add_zero, Nat.zero_add, Nat.reduceLT, Nat.reduceLeDiff, Nat.reduceAdd, Nat.reduceSub, Nat.reduceMul, Nat.reduceDiv, Nat.lt_irrefl, Nat.not_lt_zero, Nat.zero_le, Nat.one_ne_zero, Nat.succ_ne_zero,  lt_def, i32_lit, reduceIte, P_isIn_eq, M_isIn_eq, M_goes_eq, or_false, false_or, or_true, true_or, and_true, true_and, and_false, false_and, not_true, not_false_eq_true, eq_self, if_true, if_false, not_or, not_and, Nat.not_lt, Nat.not_le, io_eq]
  by_cases hx : ∃ i, i < c ∧ x = io i
  · obtain ⟨i, hi, rfl⟩ := hx
    obtain ⟨q, t, p, u', a, h1, h2, h3, h4, hp, hu, h5, h6, h7, h8, -, hor⟩ := M_woken_eq (F := F) hh hn A hi
    have hq4 : q < 4 := by omega
    have hlt := enc_lt hq4 (show t ≤ 1000 by omega) hp hu h4
    have hea := enc_a (a := a) hq4 (show t ≤ 1000 by omega) hp hu
    have hpw := P_waits (F := F) A hi
    rcases hor with ⟨h9, h10, h11, h12, h13, h14⟩ | ⟨h9, h10, h11', h12'⟩
    · rw [if_pos h9] at hpw
      rcases (by omega : a = 0 ∨ a = 1) with rfl | rfl
      · -- it is answered now
        have hab := ans_bits hq4 (show t ≤ 1000 by omega) hp hu
        have heq1 := enc_q (t := t) (p := p) (u := u') (a := 1) hq4
        have heu1 := enc_u (a := 1) hq4 (show t ≤ 1000 by omega) hp hu
        have hlt1 := enc_lt hq4 (show t ≤ 1000 by omega) hp hu (show 1 ≤ 1 by omega)
        have hni : an1 s i = false := by unfold an1; rw [h7, decide_eq_false_iff_not]; decide
        have hdc : d < c := Nat.lt_of_le_of_lt hd (cnt_lt hni c hi)
        obtain ⟨o, nq, d1, k1, -⟩ := (C.2 q h1).2.dg
        have k1o : uo (u q) < n := (G.2.1 q h1).2.2.1
        have m59 : gA s 59 q = io (uo (u q)) := (M.2.1 q h1).1
        -- the states behind
        have newAL : ∀ s2, (∀ j, gA s2 23 j = if j = i then io 1 else gA s 23 j) → (∀ j, gA s2 68 j = if j = i then io (enc q t p u' 1) else gA s 68 j) → gA s2 19 = gA s 19 → gA s2 20 = gA s 20 → gA s2 21 = gA s 21 → gA s2 22 = gA s 22 → gI s2 1157 = gI s 1157 → gI s2 1158 = gI s 1158 → gI s2 2546 = gI s 2546 → AL s2 h n R c w ∧ cnt (an1 s2) c = cnt (an1 s) c + 1 := by
          intro s2 e23 e68 e19 e20 e21 e22 f1 f2 f3
          obtain ⟨A1, A2, A3, A4, A5, A6, A7, A8⟩ := A
          refine ⟨⟨A1, A2, A3, f1.trans A4, f2.trans A5, f3.trans A6, fun j j1 j2 => by rw [e23, if_neg (by omega)]; exact A7 j j1 j2, fun j hj => ?_⟩, cnt_one hni (by unfold an1; rw [e23, if_pos rfl]; decide) (fun j hj => by unfold an1; rw [e23, if_neg hj]) c hi⟩
          unfold ALr
          rw [e23, e68, e19, e20, e21, e22]
          by_cases hji : j = i
          · subst hji
            rw [if_pos rfl, if_pos rfl]
            exact ⟨q, t, p, u', 1, h1, h2, h3, Nat.le_refl _, h5, h6, rfl, rfl, Or.inl ⟨h9, h10, h11, h12, h13, h14⟩⟩
          · rw [if_neg hji, if_neg hji]
            exact A8 j hj
        by_cases hvn : vx = io 1 ∧ u' / 8 % 3 = 0 ∧ uo (u q) ≠ p - 1
        · -- a debt
          obtain ⟨rfl, hnight, hown⟩ := hvn
          have hcl := ansP_yes (F := F) (d := d) hn A C G hi (by omega) h9 h1 hu h10 hp h5 h13 h14 h7 D.2.1 hnight hown
          obtain ⟨s1, hs1⟩ : ∃ s1, s1 = sI (sA (sA (sA s 23 i (io 1)) 16 d (io (uo (u q)))) 17 d (io (p - 1))) 774 (io (d + 1)) := ⟨_, rfl⟩
          rw [← hs1] at hcl
          have fr1 : Fr [774] [16, 17, 23] s s1 := by
            rw [hs1]
            exact (((Fr.rf.A (by decide)).A (by decide)).A (by decide)).I (by decide)
          refine ⟨io 0, sJ s1 70 0 (io (d + 1)).toInt64, hcl, fun N hN => ?_⟩
          have fr2 : Fr [774] [16, 17, 23] s (sz' (sJ s1 70 0 (io (d + 1)).toInt64) N) := (fr1.J).Z hN
          have hJ : gJ (sz' (sJ s1 70 0 (io (d + 1)).toInt64) N) 70 0 = (io (d + 1)).toInt64 := by rw [gJ_sz, gJ_sJ, if_pos rfl, if_pos rfl]
          have z16 : ∀ j, gA (sz' (sJ s1 70 0 (io (d + 1)).toInt64) N) 16 j = if j = d then io (uo (u q)) else gA s 16 j := fun j => by rw [hs1]; simp only [gI_sI, gI_sA, gI_sL, gI_sJ, gI_sR, gI_sQ, gI_sD, gI_sN, gI_sz, gA_sI, gA_sA, gA_sL, gA_sJ, gA_sR, gA_sQ, gA_sD, gA_sN, gA_sz, gL_sI, gL_sA, gL_sL, gL_sJ, gL_sR, gL_sQ, gL_sD, gL_sN, gL_sz, gJ_sI, gJ_sA, gJ_sL, gJ_sJ, gJ_sR, gJ_sQ, gJ_sD, gJ_sN, gJ_sz, gR_sI, gR_sA, gR_sL, gR_sJ, gR_sR, gR_sQ, gR_sD, gR_sN, gR_sz, gQ_sI, gQ_sA, gQ_sL, gQ_sJ, gQ_sR, gQ_sQ, gQ_sD, gQ_sN, gQ_sz, gD_sI, gD_sA, gD_sL, gD_sJ, gD_sR, gD_sQ, gD_sD, gD_sN, gD_sz, sz_sI, sz_sA, sz_sL, sz_sJ, sz_sR, sz_sQ, sz_sD, sz_sN, sz_sz, reduceIte, Nat.reduceEqDiff]
          have z17 : ∀ j, gA (sz' (sJ s1 70 0 (io (d + 1)).toInt64) N) 17 j = if j = d then io (p - 1) else gA s 17 j := fun j => by rw [hs1]; simp only [gI_sI, gI_sA, gI_sL, gI_sJ, gI_sR, gI_sQ, gI_sD, gI_sN, gI_sz, gA_sI, gA_sA, gA_sL, gA_sJ, gA_sR, gA_sQ, gA_sD, gA_sN, gA_sz, gL_sI, gL_sA, gL_sL, gL_sJ, gL_sR, gL_sQ, gL_sD, gL_sN, gL_sz, gJ_sI, gJ_sA, gJ_sL, gJ_sJ, gJ_sR, gJ_sQ, gJ_sD, gJ_sN, gJ_sz, gR_sI, gR_sA, gR_sL, gR_sJ, gR_sR, gR_sQ, gR_sD, gR_sN, gR_sz, gQ_sI, gQ_sA, gQ_sL, gQ_sJ, gQ_sR, gQ_sQ, gQ_sD, gQ_sN, gQ_sz, gD_sI, gD_sA, gD_sL, gD_sJ, gD_sR, gD_sQ, gD_sD, gD_sN, gD_sz, sz_sI, sz_sA, sz_sL, sz_sJ, sz_sR, sz_sQ, sz_sD, sz_sN, sz_sz, reduceIte, Nat.reduceEqDiff]
          have z23 : ∀ j, gA (sz' (sJ s1 70 0 (io (d + 1)).toInt64) N) 23 j = if j = i then io 1 else gA s 23 j := fun j => by rw [hs1]; simp only [gI_sI, gI_sA, gI_sL, gI_sJ, gI_sR, gI_sQ, gI_sD, gI_sN, gI_sz, gA_sI, gA_sA, gA_sL, gA_sJ, gA_sR, gA_sQ, gA_sD, gA_sN, gA_sz, gL_sI, gL_sA, gL_sL, gL_sJ, gL_sR, gL_sQ, gL_sD, gL_sN, gL_sz, gJ_sI, gJ_sA, gJ_sL, gJ_sJ, gJ_sR, gJ_sQ, gJ_sD, gJ_sN, gJ_sz, gR_sI, gR_sA, gR_sL, gR_sJ, gR_sR, gR_sQ, gR_sD, gR_sN, gR_sz, gQ_sI, gQ_sA, gQ_sL, gQ_sJ, gQ_sR, gQ_sQ, gQ_sD, gQ_sN, gQ_sz, gD_sI, gD_sA, gD_sL, gD_sJ, gD_sR, gD_sQ, gD_sD, gD_sN, gD_sz, sz_sI, sz_sA, sz_sL, sz_sJ, sz_sR, sz_sQ, sz_sD, sz_sN, sz_sz, reduceIte, Nat.reduceEqDiff]
          have z74 : gI (sz' (sJ s1 70 0 (io (d + 1)).toInt64) N) 774 = io (d + 1) := by rw [hs1]; simp only [gI_sI, gI_sA, gI_sL, gI_sJ, gI_sR, gI_sQ, gI_sD, gI_sN, gI_sz, gA_sI, gA_sA, gA_sL, gA_sJ, gA_sR, gA_sQ, gA_sD, gA_sN, gA_sz, gL_sI, gL_sA, gL_sL, gL_sJ, gL_sR, gL_sQ, gL_sD, gL_sN, gL_sz, gJ_sI, gJ_sA, gJ_sL, gJ_sJ, gJ_sR, gJ_sQ, gJ_sD, gJ_sN, gJ_sz, gR_sI, gR_sA, gR_sL, gR_sJ, gR_sR, gR_sQ, gR_sD, gR_sN, gR_sz, gQ_sI, gQ_sA, gQ_sL, gQ_sJ, gQ_sR, gQ_sQ, gQ_sD, gQ_sN, gQ_sz, gD_sI, gD_sA, gD_sL, gD_sJ, gD_sR, gD_sQ, gD_sD, gD_sN, gD_sz, sz_sI, sz_sA, sz_sL, sz_sJ, sz_sR, sz_sQ, sz_sD, sz_sN, sz_sz, reduceIte]
          generalize sz' (sJ s1 70 0 (io (d + 1)).toInt64) N = z at fr2 hJ z16 z17 z23 z74
          have hm := ansM_yes (F := F) (R := R) (z := z) (ow := uo (u q)) (d := d) (q := q) (t := t) (p := p) (u' := u') hi hc (by omega) hq4 (by omega) h10 hp hu (by omega) (by rw [fr2.gi 2546 (by decide)]; exact A.2.2.2.2.2.1) (by rw [fr2.ga 68 (by decide)]; exact h8) (by rw [fr2.ga 59 (by decide)]; exact m59) (by rw [fr2.gi 2548 (by decide)]; exact D.2.2.1) hnight hown
          have f3 : Fr [2548, 2551] [68, 69] z (sI (sA (sA (sI z 2551 (io 0)) 68 i (io (enc q t p u' 1))) 69 d (io (8 * uo (u q) + (p - 1)))) 2548 (io (d + 1))) := (((Fr.rf.I (by decide)).A (by decide)).A (by decide)).I (by decide)
          have y68 : ∀ j, gA (sI (sA (sA (sI z 2551 (io 0)) 68 i (io (enc q t p u' 1))) 69 d (io (8 * uo (u q) + (p - 1)))) 2548 (io (d + 1))) 68 j = if j = i then io (enc q t p u' 1) else gA z 68 j := fun j => by rw [gA_sI, gA_sA, if_neg (by decide), gA_sA, if_pos rfl, gA_sI]
          have y69 : ∀ j, gA (sI (sA (sA (sI z 2551 (io 0)) 68 i (io (enc q t p u' 1))) 69 d (io (8 * uo (u q) + (p - 1)))) 2548 (io (d + 1))) 69 j = if j = d then io (8 * uo (u q) + (p - 1)) else gA z 69 j := fun j => by rw [gA_sI, gA_sA, if_pos rfl, gA_sA, if_neg (show ¬ (69 : Nat) = 68 by decide), gA_sI]
          have y48 : gI (sI (sA (sA (sI z 2551 (io 0)) 68 i (io (enc q t p u' 1))) 69 d (io (8 * uo (u q) + (p - 1)))) 2548 (io (d + 1))) 2548 = io (d + 1) := by rw [gI_sI, if_pos rfl]
          have y51 : gI (sI (sA (sA (sI z 2551 (io 0)) 68 i (io (enc q t p u' 1))) 69 d (io (8 * uo (u q) + (p - 1)))) 2548 (io (d + 1))) 2551 = io 0 := by rw [gI_sI, if_neg (by decide), gI_sA, gI_sA, gI_sI, if_pos rfl]
          have yJ : gJ (sI (sA (sA (sI z 2551 (io 0)) 68 i (io (enc q t p u' 1))) 69 d (io (8 * uo (u q) + (p - 1)))) 2548 (io (d + 1))) = gJ z := by rw [gJ_sI, gJ_sA, gJ_sA, gJ_sI]
          generalize sI (sA (sA (sI z 2551 (io 0)) 68 i (io (enc q t p u' 1))) 69 d (io (8 * uo (u q) + (p - 1)))) 2548 (io (d + 1)) = s2 at hm f3 y68 y69 y48 y51 yJ
          have fr : Fr [774, 2548, 2551] [16, 17, 23, 68, 69] s s2 := (fr2.wide (by decide) (by decide)).trans (f3.wide (by decide) (by decide))
          have g23 : ∀ j, gA s2 23 j = if j = i then io 1 else gA s 23 j := fun j => by rw [f3.ga 23 (by decide)]; exact z23 j
          have g68 : ∀ j, gA s2 68 j = if j = i then io (enc q t p u' 1) else gA s 68 j := fun j => by rw [y68, fr2.ga 68 (by decide)]
          obtain ⟨nA, nC⟩ := newAL s2 g23 g68 (fr.ga 19 (by decide)) (fr.ga 20 (by decide)) (fr.ga 21 (by decide)) (fr.ga 22 (by decide)) (fr.gi 1157 (by decide)) (fr.gi 1158 (by decide)) (fr.gi 2546 (by decide))
          refine ⟨io (d + 1), s2, hm, y51, fun _ => by rw [yJ]; exact hJ, fr, nA, d + 1, ?_, by rw [nC]; omega⟩
          obtain ⟨D1, D2, D3, D4⟩ := D
          refine ⟨by omega, by rw [f3.gi 774 (by decide)]; exact z74, y48, fun j hj => ?_⟩
          rw [f3.ga 16 (by decide), f3.ga 17 (by decide), y69, z16, z17]
          by_cases e : j = d
          · rw [if_pos e, if_pos e, if_pos e]
            exact ⟨_, _, k1o, by omega, rfl, rfl, rfl⟩
          · rw [if_neg e, if_neg e, if_neg e, fr2.ga 69 (by decide)]
            exact D4 j (by omega)
        · -- no debt
          have hcl := ansP_no (F := F) (d := d) hn A C G hi h9 h1 hu h10 hp h5 h13 h14 h7 D.2.1 vv hvn
          refine ⟨io 0, sJ (sA s 23 i (io 1)) 70 0 (io d).toInt64, hcl, fun N hN => ?_⟩
          have fr2 : Fr [] [23] s (sz' (sJ (sA s 23 i (io 1)) 70 0 (io d).toInt64) N) := ((Fr.rf.A (by decide)).J).Z hN
          have hJ : gJ (sz' (sJ (sA s 23 i (io 1)) 70 0 (io d).toInt64) N) 70 0 = (io d).toInt64 := by rw [gJ_sz, gJ_sJ, if_pos rfl, if_pos rfl]
          have z23 : ∀ j, gA (sz' (sJ (sA s 23 i (io 1)) 70 0 (io d).toInt64) N) 23 j = if j = i then io 1 else gA s 23 j := fun j => by simp only [gI_sI, gI_sA, gI_sL, gI_sJ, gI_sR, gI_sQ, gI_sD, gI_sN, gI_sz, gA_sI, gA_sA, gA_sL, gA_sJ, gA_sR, gA_sQ, gA_sD, gA_sN, gA_sz, gL_sI, gL_sA, gL_sL, gL_sJ, gL_sR, gL_sQ, gL_sD, gL_sN, gL_sz, gJ_sI, gJ_sA, gJ_sL, gJ_sJ, gJ_sR, gJ_sQ, gJ_sD, gJ_sN, gJ_sz, gR_sI, gR_sA, gR_sL, gR_sJ, gR_sR, gR_sQ, gR_sD, gR_sN, gR_sz, gQ_sI, gQ_sA, gQ_sL, gQ_sJ, gQ_sR, gQ_sQ, gQ_sD, gQ_sN, gQ_sz, gD_sI, gD_sA, gD_sL, gD_sJ, gD_sR, gD_sQ, gD_sD, gD_sN, gD_sz, sz_sI, sz_sA, sz_sL, sz_sJ, sz_sR, sz_sQ, sz_sD, sz_sN, sz_sz, reduceIte, Nat.reduceEqDiff]
          generalize sz' (sJ (sA s 23 i (io 1)) 70 0 (io d).toInt64) N = z at fr2 hJ z23
          have hm := ansM_no (F := F) (R := R) (z := z) (ow := uo (u q)) (d := d) (q := q) (t := t) (p := p) (u' := u') hi hc hq4 (by omega) h10 hp hu (by omega) (by rw [fr2.gi 2546 (by decide)]; exact A.2.2.2.2.2.1) (by rw [fr2.ga 68 (by decide)]; exact h8) (by rw [fr2.ga 59 (by decide)]; exact m59) (by rw [fr2.gi 2548 (by decide)]; exact D.2.2.1) vv hvn
          have f3 : Fr [2551] [68] z (sA (sI z 2551 (io 0)) 68 i (io (enc q t p u' 1))) := (Fr.rf.I (by decide)).A (by decide)
          have y68 : ∀ j, gA (sA (sI z 2551 (io 0)) 68 i (io (enc q t p u' 1))) 68 j = if j = i then io (enc q t p u' 1) else gA z 68 j := fun j => by simp only [gI_sI, gI_sA, gI_sL, gI_sJ, gI_sR, gI_sQ, gI_sD, gI_sN, gI_sz, gA_sI, gA_sA, gA_sL, gA_sJ, gA_sR, gA_sQ, gA_sD, gA_sN, gA_sz, gL_sI, gL_sA, gL_sL, gL_sJ, gL_sR, gL_sQ, gL_sD, gL_sN, gL_sz, gJ_sI, gJ_sA, gJ_sL, gJ_sJ, gJ_sR, gJ_sQ, gJ_sD, gJ_sN, gJ_sz, gR_sI, gR_sA, gR_sL, gR_sJ, gR_sR, gR_sQ, gR_sD, gR_sN, gR_sz, gQ_sI, gQ_sA, gQ_sL, gQ_sJ, gQ_sR, gQ_sQ, gQ_sD, gQ_sN, gQ_sz, gD_sI, gD_sA, gD_sL, gD_sJ, gD_sR, gD_sQ, gD_sD, gD_sN, gD_sz, sz_sI, sz_sA, sz_sL, sz_sJ, sz_sR, sz_sQ, sz_sD, sz_sN, sz_sz, reduceIte, Nat.reduceEqDiff]
          have y51 : gI (sA (sI z 2551 (io 0)) 68 i (io (enc q t p u' 1))) 2551 = io 0 := by simp only [gI_sI, gI_sA, gI_sL, gI_sJ, gI_sR, gI_sQ, gI_sD, gI_sN, gI_sz, gA_sI, gA_sA, gA_sL, gA_sJ, gA_sR, gA_sQ, gA_sD, gA_sN, gA_sz, gL_sI, gL_sA, gL_sL, gL_sJ, gL_sR, gL_sQ, gL_sD, gL_sN, gL_sz, gJ_sI, gJ_sA, gJ_sL, gJ_sJ, gJ_sR, gJ_sQ, gJ_sD, gJ_sN, gJ_sz, gR_sI, gR_sA, gR_sL, gR_sJ, gR_sR, gR_sQ, gR_sD, gR_sN, gR_sz, gQ_sI, gQ_sA, gQ_sL, gQ_sJ, gQ_sR, gQ_sQ, gQ_sD, gQ_sN, gQ_sz, gD_sI, gD_sA, gD_sL, gD_sJ, gD_sR, gD_sQ, gD_sD, gD_sN, gD_sz, sz_sI, sz_sA, sz_sL, sz_sJ, sz_sR, sz_sQ, sz_sD, sz_sN, sz_sz, reduceIte, Nat.reduceEqDiff]
          have yJ : gJ (sA (sI z 2551 (io 0)) 68 i (io (enc q t p u' 1))) = gJ z := rfl
          generalize sA (sI z 2551 (io 0)) 68 i (io (enc q t p u' 1)) = s2 at hm f3 y68 y51 yJ
          have fr : Fr [774, 2548, 2551] [16, 17, 23, 68, 69] s s2 := (fr2.wide (by decide) (by decide)).trans (f3.wide (by decide) (by decide))
          have g23 : ∀ j, gA s2 23 j = if j = i then io 1 else gA s 23 j := fun j => by rw [f3.ga 23 (by decide)]; exact z23 j
          have g68 : ∀ j, gA s2 68 j = if j = i then io (enc q t p u' 1) else gA s 68 j := fun j => by rw [y68, fr2.ga 68 (by decide)]
          obtain ⟨nA, nC⟩ := newAL s2 g23 g68 (fr.ga 19 (by decide)) (fr.ga 20 (by decide)) (fr.ga 21 (by decide)) (fr.ga 22 (by decide)) (fr.gi 1157 (by decide)) (fr.gi 1158 (by decide)) (fr.gi 2546 (by decide))
          exact ⟨io d, s2, hm, y51, fun _ => by rw [yJ]; exact hJ, fr, nA, d, (D.fr fr2).fr f3, by rw [nC]; omega⟩
      · -- it was answered
        refine ⟨io 2, s, ?_, fun N hN => ⟨io 0, sI (sz' s N) 2551 (io 2), ?_, rfl, fun h => absurd h (by decide), bad _ N hN⟩⟩
        · simp (disch := omega) only [f_L_answer, f_P_answer, Option.bind_some, Nat.reduceEqDiff, Nat.add_zero, Nat.zero_add, Nat.reduceLT, Nat.reduceLeDiff, Nat.reduceAdd, Nat.reduceSub, Nat.reduceMul, Nat.reduceDiv, Nat.lt_irrefl, Nat.not_lt_zero, Nat.zero_le, Nat.one_ne_zero, Nat.succ_ne_zero,  lt_def, i32_lit, reduceIte, P_isIn_eq, M_isIn_eq, M_goes_eq, or_false, false_or, or_true, true_or, and_true, true_and, and_false, false_and, not_true, not_false_eq_true, eq_self, if_true, if_false, not_or, not_and, Nat.not_lt, Nat.not_le, P_has_t A hi, io_eq, hpw, ix_io, h7, hz]
        · have f0 : Fr [] [] s (sz' s N) := Fr.rf.Z hN
          have z68 : gA (sz' s N) 68 i = io (enc q t p u' 1) := h8
          have zwb := wokenBy_eq (F := F) (s := sz' s N) (show i < 4000 by omega) z68 hq4 (by omega) hp hu (by omega)
          rw [dn_pos h10] at zwb
          have hm2 := mno N (io 2) (Or.inr rfl)
          simp (disch := omega) only [f_M_answer, Option.bind_some, Nat.reduceEqDiff, Nat.add_zero, Nat.zero_add, Nat.reduceLT, Nat.reduceLeDiff, Nat.reduceAdd, Nat.reduceSub, Nat.reduceMul, Nat.reduceDiv, Nat.lt_irrefl, Nat.not_lt_zero, Nat.zero_le, Nat.one_ne_zero, Nat.succ_ne_zero,  lt_def, i32_lit, reduceIte, P_isIn_eq, M_isIn_eq, M_goes_eq, or_false, false_or, or_true, true_or, and_true, true_and, and_false, false_and, not_true, not_false_eq_true, eq_self, if_true, if_false, not_or, not_and, Nat.not_lt, Nat.not_le, M_alarm_t (A.fr f0) hi, io_eq, zwb, io_neg1, ix_io, z68, io_and, io_shr, and31, and3, and15, and1023, shr2, shr12, shr16, shr26, hea, hm2]
    · rw [if_neg (by omega)] at hpw
      refine ⟨io 2, s, ?_, fun N hN => ⟨io 0, sI (sz' s N) 2551 (io 2), ?_, rfl, fun h => absurd h (by decide), bad _ N hN⟩⟩
      · simp (disch := omega) only [f_L_answer, f_P_answer, Option.bind_some, Nat.reduceEqDiff, Nat.add_zero, Nat.zero_add, Nat.reduceLT, Nat.reduceLeDiff, Nat.reduceAdd, Nat.reduceSub, Nat.reduceMul, Nat.reduceDiv, Nat.lt_irrefl, Nat.not_lt_zero, Nat.zero_le, Nat.one_ne_zero, Nat.succ_ne_zero,  lt_def, i32_lit, reduceIte, P_isIn_eq, M_isIn_eq, M_goes_eq, or_false, false_or, or_true, true_or, and_true, true_and, and_false, false_and, not_true, not_false_eq_true, eq_self, if_true, if_false, not_or, not_and, Nat.not_lt, Nat.not_le, P_has_t A hi, io_eq, hpw, hz]
      · have f0 : Fr [] [] s (sz' s N) := Fr.rf.Z hN
        have z68 : gA (sz' s N) 68 i = io (enc q t p u' a) := h8
        have zwb := wokenBy_eq (F := F) (s := sz' s N) (show i < 4000 by omega) z68 hq4 (by omega) hp hu h4
        have hd0 : dn p = -io 1 := by rw [h10]; rfl
        have hm2 := mno N (io 2) (Or.inr rfl)
        simp (disch := omega) only [f_M_answer, Option.bind_some, Nat.reduceEqDiff, Nat.add_zero, Nat.zero_add, Nat.reduceLT, Nat.reduceLeDiff, Nat.reduceAdd, Nat.reduceSub, Nat.reduceMul, Nat.reduceDiv, Nat.lt_irrefl, Nat.not_lt_zero, Nat.zero_le, Nat.one_ne_zero, Nat.succ_ne_zero,  lt_def, i32_lit, reduceIte, P_isIn_eq, M_isIn_eq, M_goes_eq, or_false, false_or, or_true, true_or, and_true, true_and, and_false, false_and, not_true, not_false_eq_true, eq_self, if_true, if_false, not_or, not_and, Nat.not_lt, Nat.not_le, M_alarm_t (A.fr f0) hi, io_eq, zwb, hd0, hm2]
  · refine ⟨io 1, s, ?_, fun N hN => ⟨io 0, sI (sz' s N) 2551 (io 1), ?_, rfl, fun h => absurd h (by decide), bad _ N hN⟩⟩
    · simp (disch := omega) only [f_L_answer, f_P_answer, Option.bind_some, Nat.reduceEqDiff, Nat.add_zero, Nat.zero_add, Nat.reduceLT, Nat.reduceLeDiff, Nat.reduceAdd, Nat.reduceSub, Nat.reduceMul, Nat.reduceDiv, Nat.lt_irrefl, Nat.not_lt_zero, Nat.zero_le, Nat.one_ne_zero, Nat.succ_ne_zero,  lt_def, i32_lit, reduceIte, P_isIn_eq, M_isIn_eq, M_goes_eq, or_false, false_or, or_true, true_or, and_true, true_and, and_false, false_and, not_true, not_false_eq_true, eq_self, if_true, if_false, not_or, not_and, Nat.not_lt, Nat.not_le, P_has_f A hx, hz]
    · have f0 : Fr [] [] s (sz' s N) := Fr.rf.Z hN
      have hm2 := mno N (io 1) (Or.inl rfl)
      simp (disch := omega) only [f_M_answer, Option.bind_some, Nat.reduceEqDiff, Nat.add_zero, Nat.zero_add, Nat.reduceLT, Nat.reduceLeDiff, Nat.reduceAdd, Nat.reduceSub, Nat.reduceMul, Nat.reduceDiv, Nat.lt_irrefl, Nat.not_lt_zero, Nat.zero_le, Nat.one_ne_zero, Nat.succ_ne_zero,  lt_def, i32_lit, reduceIte, P_isIn_eq, M_isIn_eq, M_goes_eq, or_false, false_or, or_true, true_or, and_true, true_and, and_false, false_and, not_true, not_false_eq_true, eq_self, if_true, if_false, not_or, not_and, Nat.not_lt, Nat.not_le, M_alarm_f (A.fr f0) hx, hm2]
