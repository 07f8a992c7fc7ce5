/-! the class turns a question into codes -/
section PQS
variable {F n : Nat} {t : Nat → Nat}
theorem qr1_op {x : Nat} (h : qop x ∨ x = 126) : qr1 (tkQ x) = [x] := by
  unfold qr1 tkQ
  rw [if_neg (by unfold qop at h; show ¬ x = 35; omega), if_neg (by unfold agc; rw [decide_eq_true_eq]; unfold qop at h; show ¬ (x = 100 ∨ _); omega)]
theorem agg2P {d i u m f i2 : Nat} {s : St} {pl : List PR} {c : List Nat} {cq : List QT} (hF : 5000 ≤ F) (T : TXT t n) (hm : 100 ≤ m + u) (P : PP t n s pl c i u) (hk : agc (t i) = true) (hi2 : (fdc (t (i + 2)) = false ∧ f = 0 ∧ i2 = i + 2 ∧ i + 2 < n) ∨ (fdc (t (i + 2)) = true ∧ f = t (i + 2) ∧ i2 = i + 3)) (hi3 : i2 ≤ n) (hc : (pAg2 t d (t i) f i2).1 = some cq) :
    RP F t n 7 pl c (qrow cq) (TP F n m s i u) s (m + u) (pAg2 t d (t i) f i2).2 := by
  have hn := T.1
  have i1 := T.bin hk
  have hu := P.2.2.2.2.2.2
  have hk35 : ¬ t i = 35 := fun e => by rw [e] at hk; exact absurd hk (by decide)
  have hrk : rkP (t i) < 1 := by
    unfold agc at hk
    have := of_decide_eq_true hk
    rcases this with e | e | e | e | e | e <;> rw [e] <;> decide
  obtain ⟨s1, a1, a2, a3⟩ := openP (F := F) T P hk hi2 hi3
  have hi2i : i + 2 ≤ i2 := by omega
  unfold pAg2 at hc ⊢
  by_cases h58 : t i2 = 58
  · rw [if_pos h58] at hc a1 a3 ⊢
    have i21 := T.in' h58
    obtain ⟨g1, g2, g3⟩ := pC_gd T d 3 (i2 + 1) (by omega) i21
    unfold ag2E at hc ⊢
    cases hq : (pC t d 3 (i2 + 1)).1 with
    | none => rw [hq] at hc; cases hc
    | some cc =>
      rw [hq] at hc
      dsimp only at hc ⊢
      unfold clo at hc ⊢
      dsimp only at hc ⊢
      by_cases h41 : t (pC t d 3 (i2 + 1)).2 = 41
      · rw [if_pos h41] at hc ⊢
        cases hc
        have j1 := T.in' h41
        have y1 := (g3 cc hq).1
        have h := PCC (F := F) hF T d 3 (i2 + 1) (m - 1) (u + 1) s1 _ _ cc (by omega) i21 (by omega) hq (by rw [h41]; decide) a3 (fun y w e => by cases e; exact hrk)
        rw [show m - 1 + (u + 1) = m + u by omega] at h
        obtain ⟨s3, m3, u3, pl3, c3, b1, b2, b3, b4, b5, b6, b7, b8, b9⟩ := h.pre a2
        have hl3 := b9.q (by omega) a3.2.2.2.2.2.1
        obtain ⟨pd3, b9, b10, b11⟩ := b9
        obtain ⟨s4, d1, d2, d3, d4⟩ := closeA (F := F) hF T (b4.cx P.2.1) b5 j1 h41 hk b9 b10 b11 hl3 b8 b7
        have hlen : c3.length + pl3.length = (c ++ [t i, f, 0] ++ chrow cc).length + (pl.length + 1) := by
          have := congrArg List.length b10
          rw [List.length_append, List.length_map] at this
          rw [b9, List.length_append]
          show c3.length + (pd3.length + (pl.length + 1)) = _
          omega
        have hlen2 : (c ++ [t i, f, 0] ++ chrow cc).length = c.length + 3 + (chrow cc).length := by rw [List.length_append, List.length_append]; rfl
        have hrow : qrow [(t i, f, some cc)] = [t i, f, (chrow cc).length] ++ chrow cc := by
          rw [qrow_one]
          unfold qr1
          rw [if_neg hk35, if_pos hk]
          rfl
        refine ⟨s4, m3 - 1, u3 + 1, pl, c ++ ([t i, f, (chrow cc).length] ++ chrow cc), by rw [TP_step hn i1 hu (by omega) a1, b1, TP_step hn j1 b3 (by omega) d1], by omega, by show u3 + 1 ≤ (pC t d 3 (i2 + 1)).2 + 1; omega, b4.trans d2, d3, d4, ?_, ?_, [], rfl, ?_, fun y hy => (List.not_mem_nil hy).elim⟩
        · rw [List.length_append, List.length_append]
          show c.length + (3 + (chrow cc).length) + pl.length ≤ 2 * ((pC t d 3 (i2 + 1)).2 + 1)
          omega
        · have := P.2.2.2.2.1
          show pl.length ≤ (pC t d 3 (i2 + 1)).2 + 1
          omega
        · rw [hrow]; exact List.append_nil _
      · rw [if_neg h41] at hc; cases hc
  · rw [if_neg h58] at hc a1 a3 ⊢
    unfold clo at hc ⊢
    dsimp only at hc ⊢
    by_cases h41 : t i2 = 41
    · rw [if_pos h41] at hc ⊢
      cases hc
      have j1 := T.in' h41
      obtain ⟨H, X, h9, hz, hp, hl, hu2⟩ := a3
      obtain ⟨s4, d1, d2, d3, d4⟩ := closeA (F := F) (pd := []) (rw := []) hF T X H j1 h41 hk rfl (by rw [List.map_nil]) (fun y hy => (List.not_mem_nil hy).elim) hl hp hz
      have hrow : qrow [(t i, f, none)] = [t i, f, 0] := by
        rw [qrow_one]
        unfold qr1
        rw [if_neg hk35, if_pos hk]
        rfl
      rw [List.length_append] at hz
      have hz' : c.length + 3 + (pl.length + 1) ≤ 2 * i2 := hz
      refine ⟨s4, m - 1 - 1, u + 1 + 1, pl, c ++ [t i, f, 0], by rw [TP_step hn i1 hu (by omega) a1, TP_step hn j1 hu2 (by omega) d1], by omega, by show u + 1 + 1 ≤ i2 + 1; omega, a2.trans d2, d3, d4, ?_, ?_, [], rfl, ?_, fun y hy => (List.not_mem_nil hy).elim⟩
      · rw [List.length_append]
        show c.length + 3 + pl.length ≤ 2 * (i2 + 1)
        omega
      · have := P.2.2.2.2.1
        show pl.length ≤ i2 + 1
        omega
      · rw [hrow]; exact List.append_nil _
    · rw [if_neg h41] at hc; cases hc
theorem aggP {d i u m : Nat} {s : St} {pl : List PR} {c : List Nat} {cq : List QT} (hF : 5000 ≤ F) (T : TXT t n) (hm : 100 ≤ m + u) (P : PP t n s pl c i u) (hk : agc (t i) = true) (hc : (pAg t d i).1 = some cq) : RP F t n 7 pl c (qrow cq) (TP F n m s i u) s (m + u) (pAg t d i).2 := by
  unfold pAg at hc ⊢
  by_cases h40 : t (i + 1) = 40
  · rw [if_pos h40] at hc ⊢
    have i2 := T.in' h40
    by_cases h110 : t i = 110
    · rw [if_pos h110] at hc ⊢
      have hx : t (i + 2) = 58 ∨ t (i + 2) = 41 := by
        by_cases e1 : t (i + 2) = 58
        · exact Or.inl e1
        · by_cases e2 : t (i + 2) = 41
          · exact Or.inr e2
          · unfold pAg2 clo at hc
            rw [if_neg e1] at hc
            dsimp only at hc
            rw [if_neg e2] at hc; cases hc
      exact agg2P hF T hm P hk (Or.inl ⟨by rcases hx with e | e <;> rw [e] <;> decide, rfl, rfl, by rcases hx with e | e <;> exact T.in' e⟩) i2 hc
    · rw [if_neg h110] at hc ⊢
      by_cases hf : fdc (t (i + 2)) = true
      · rw [if_pos hf] at hc ⊢
        exact agg2P hF T hm P hk (Or.inr ⟨hf, rfl, rfl⟩) (T.bin hf) hc
      · rw [if_neg hf] at hc; cases hc
  · rw [if_neg h40] at hc; cases hc
def qR (g : Nat) : Nat := if g = 6 then 7 else rgP g
theorem PQC (hF : 5000 ≤ F) (T : TXT t n) : ∀ d g i m u s pl c cq, (g = 0 ∨ g = 1 ∨ g = 2 ∨ g = 6) → i ≤ n → 100 ≤ m + u → (pQ t d g i).1 = some cq → dgt (t (pQ t d g i).2) = false → PP t n s pl c i u → (g = 6 ∨ tpP (rgP g) pl) → RP F t n (qR g) pl c (qrow cq) (TP F n m s i u) s (m + u) (pQ t d g i).2 := by
  have hn := T.1
  have hrow : ∀ g, g ≤ 2 → ∀ a b x, sgc g x = true → qrow (a ++ b ++ [tkQ x]) = qrow a ++ qrow b ++ [x] := by
    intro g hg a b x hx
    rw [qrow_app, qrow_app, qrow_one, qr1_op (Or.inl (qop_of hx hg))]
  intro d
  induction d with
  | zero => intro g i m u s pl c cq hg hi hm hc; cases hc
  | succ d ih =>
    intro g i m u s pl c cq hg hi hm hc hd P tp
    rcases hg with rfl | rfl | rfl | rfl
    · exact chain_P (r := 4) (r' := 5) (R' := 5) hF T (by omega) rfl (by omega) (by omega) (hrow 0 (by omega)) (tp.resolve_left (by omega)) (fun i hi => (pQ_gd T d 1 i (by omega) hi).tt) (fun i m u s pl2 c2 cc h1 h2 h3 h4 h5 h6 h7 => ih 1 i m u s pl2 c2 cc (by omega) h2 h3 h4 h5 h6 (Or.inr h7)) hi hm hc hd P
    · exact chain_P (r := 5) (r' := 6) (R' := 6) hF T (by omega) rfl (by omega) (by omega) (hrow 1 (by omega)) (tp.resolve_left (by omega)) (fun i hi => (pQ_gd T d 2 i (by omega) hi).tt) (fun i m u s pl2 c2 cc h1 h2 h3 h4 h5 h6 h7 => ih 2 i m u s pl2 c2 cc (by omega) h2 h3 h4 h5 h6 (Or.inr h7)) hi hm hc hd P
    · exact chain_P (r := 6) (r' := 7) (R' := 7) hF T (by omega) rfl (by omega) (by omega) (hrow 2 (by omega)) (tp.resolve_left (by omega)) (fun i hi => (pQ_gd T d 6 i (by omega) hi).tt) (fun i m u s pl2 c2 cc h1 h2 h3 h4 h5 h6 h7 => ih 6 i m u s pl2 c2 cc (by omega) h2 h3 h4 h5 h6 (Or.inl rfl)) hi hm hc hd P
    · have hc' : (if t i = 45 then post (tkQ 126) (pQ t d 6 (i + 1)) else if t i = 40 then clo t (pQ t d 0 (i + 1)) else if agc (t i) = true then pAg t (d - 1) i else numE (pNum t i)).1 = some cq := hc
      have hd' : dgt (t (if t i = 45 then post (tkQ 126) (pQ t d 6 (i + 1)) else if t i = 40 then clo t (pQ t d 0 (i + 1)) else if agc (t i) = true then pAg t (d - 1) i else numE (pNum t i)).2) = false := hd
      show RP F t n 7 pl c (qrow cq) (TP F n m s i u) s (m + u) (if t i = 45 then post (tkQ 126) (pQ t d 6 (i + 1)) else if t i = 40 then clo t (pQ t d 0 (i + 1)) else if agc (t i) = true then pAg t (d - 1) i else numE (pNum t i)).2
      have hu := P.2.2.2.2.2.2
      by_cases h1 : t i = 45
      · rw [if_pos h1] at hc' hd' ⊢
        have i1 := T.in' h1
        obtain ⟨s1, a1, a2, a3⟩ := pushP (F := F) (y := 126) T P i1 (Or.inr (Or.inr ⟨h1, rfl⟩))
        unfold post at hc' hd' ⊢
        cases hq : (pQ t d 6 (i + 1)).1 with
        | none => rw [hq] at hc'; cases hc'
        | some c2 =>
          rw [hq] at hc' hd'
          dsimp only at hc' hd' ⊢
          cases hc'
          have h : RP F t n 7 ((126, c.length) :: pl) c (qrow c2) (TP F n (m - 1) s1 (i + 1) (u + 1)) s1 (m - 1 + (u + 1)) (pQ t d 6 (i + 1)).2 := ih 6 (i + 1) (m - 1) (u + 1) s1 _ c c2 (by omega) i1 (by omega) hq hd' a3 (Or.inl rfl)
          rw [show m - 1 + (u + 1) = m + u by omega] at h
          obtain ⟨s3, m3, u3, pl3, c3, b1, b2, b3, b4, b5, b6, b7, b8, pd3, b9, b10, b11⟩ := h.pre a2
          refine ⟨s3, m3, u3, pl3, c3, by rw [TP_step hn i1 hu (by omega) a1, b1], b2, b3, b4, b5, b6, b7, b8, pd3 ++ [(126, c.length)], by rw [b9, List.append_assoc]; rfl, ?_, fun y hy => ?_⟩
          · rw [List.map_append, ← List.append_assoc, b10, qrow_app, qrow_one, List.append_assoc, qr1_op (Or.inr rfl)]; rfl
          · rcases List.mem_append.mp hy with hy | hy
            · exact b11 y hy
            · rw [List.mem_singleton.mp hy]; show 7 ≤ rkP 126; decide
      · rw [if_neg h1] at hc' hd' ⊢
        by_cases h2 : t i = 40
        · rw [if_pos h2] at hc' hd' ⊢
          have i1 := T.in' h2
          obtain ⟨s1, a1, a2, a3⟩ := pushP (F := F) (y := 40) T P i1 (Or.inr (Or.inl ⟨h2, rfl⟩))
          obtain ⟨g1, g2, g3⟩ := pQ_gd T d 0 (i + 1) (by omega) i1
          unfold clo at hc' hd' ⊢
          cases hq : (pQ t d 0 (i + 1)).1 with
          | none => rw [hq] at hc'; cases hc'
          | some c2 =>
            rw [hq] at hc' hd'
            dsimp only at hc' hd' ⊢
            by_cases h41 : t (pQ t d 0 (i + 1)).2 = 41
            · rw [if_pos h41] at hc' hd' ⊢
              cases hc'
              have j1 := T.in' h41
              have y1 := (g3 cq hq).1
              have h : RP F t n 4 ((40, c.length) :: pl) c (qrow cq) (TP F n (m - 1) s1 (i + 1) (u + 1)) s1 (m - 1 + (u + 1)) (pQ t d 0 (i + 1)).2 := ih 0 (i + 1) (m - 1) (u + 1) s1 _ c cq (by omega) i1 (by omega) hq (by rw [h41]; decide) a3 (Or.inr (fun y w e => by cases e; show rkP 40 < rgP 0; decide))
              rw [show m - 1 + (u + 1) = m + u by omega] at h
              obtain ⟨s3, m3, u3, pl3, c3, b1, b2, b3, b4, b5, b6, b7, b8, b9⟩ := h.pre a2
              have hl3 := b9.q (by omega) a3.2.2.2.2.2.1
              obtain ⟨pd3, b9, b10, b11⟩ := b9
              obtain ⟨s4, d1, d2, d3, d4⟩ := closeP (F := F) hF T (b4.cx P.2.1) b5 j1 h41 b9 b10 (fun y hy => by have := b11 y hy; omega) hl3 b8 b7
              have hlen : c3.length + pl3.length = (c ++ qrow cq).length + (pl.length + 1) := by
                have := congrArg List.length b10
                rw [List.length_append, List.length_map] at this
                rw [b9, List.length_append]
                show c3.length + (pd3.length + (pl.length + 1)) = _
                omega
              refine ⟨s4, m3 - 1, u3 + 1, pl, c ++ qrow cq, by rw [TP_step hn i1 hu (by omega) a1, b1, TP_step hn j1 b3 (by omega) d1], by omega, by show u3 + 1 ≤ (pQ t d 0 (i + 1)).2 + 1; omega, b4.trans d2, d3, d4, by show (c ++ qrow cq).length + pl.length ≤ 2 * ((pQ t d 0 (i + 1)).2 + 1); omega, ?_, [], rfl, List.append_nil _, fun y hy => (List.not_mem_nil hy).elim⟩
              have := P.2.2.2.2.1
              show pl.length ≤ (pQ t d 0 (i + 1)).2 + 1
              omega
            · rw [if_neg h41] at hc'; cases hc'
        · rw [if_neg h2] at hc' hd' ⊢
          by_cases h3 : agc (t i) = true
          · rw [if_pos h3] at hc' hd' ⊢
            exact aggP hF T hm P h3 hc'
          · rw [if_neg h3] at hc' hd' ⊢
            obtain ⟨H, X, h9, hz, hp, hl, -⟩ := P
            unfold numE at hc' hd' ⊢
            cases hv : (pNum t i).1 with
            | none => rw [hv] at hc'; cases hc'
            | some v =>
              rw [hv] at hc' hd'
              dsimp only at hc' hd' ⊢
              cases hc'
              have gn := num_gd T hi
              have hvj := (gn.2.2 v hv).1
              have hi38 : c.length ≤ 78 := by omega
              obtain ⟨j1, s4, d1, d2, d3, d4⟩ := numC (F := F) hF T X H hi38 hi hv hd'
              refine ⟨s4, m - 1, u + 1, pl, c ++ [35, v], by rw [TP_step hn j1 hu (by omega) d1], by omega, by omega, d2, d3, d4, ?_, by omega, [], rfl, ?_, fun y hy => (List.not_mem_nil hy).elim⟩
              · rw [List.length_append]
                show c.length + 2 + pl.length ≤ 2 * (pNum t i).2
                omega
              · rw [qrow_one, List.map_nil, List.append_nil]
                rfl
/-- a row of codes, as the class keeps it -/
def CR (s : St) (rw : List Nat) : Prop := rw.length ≤ 80 ∧ gI s 1665 = io rw.length ∧ ∀ i (h : i < rw.length), gA s 27 i = io rw[i]
theorem coder_eq (hF : 5000 ≤ F) (T : TXT t n) {s : St} {cq : List QT} (X : CX2 t n s) (hq : ques t n = some cq) : ∃ s', f_Coder_turn F s (io n) = some s' ∧ FC s s' ∧ CR s' (qrow cq) := by
  have hn := T.1
  obtain ⟨q1, q2, q3, q4, q5⟩ := ques_ok T hq
  have fc : FC s (sI (sI (sI s 1665 (io 0)) 1668 (io 0)) 1669 (io 0)) := ((FC.rf.I (by decide)).I (by decide)).I (by decide)
  have P : PP t n (sI (sI (sI s 1665 (io 0)) 1668 (io 0)) 1669 (io 0)) [] [] 0 0 := ⟨⟨rfl, trivial, trivial, rfl, fun i h => absurd h (Nat.not_lt_zero _)⟩, fc.cx X, rfl, Nat.le_refl _, Nat.le_refl _, fun y hy => (List.not_mem_nil hy).elim, Nat.le_refl _⟩
  have hpe : (pQ t 200 0 0).2 = n := q4
  have h : RP F t n 4 [] [] (qrow cq) (TP F n F _ 0 0) _ (F + 0) (pQ t 200 0 0).2 := PQC hF T 200 0 0 F 0 _ [] [] cq (Or.inl rfl) (Nat.zero_le _) (by omega) q3 (by rw [hpe, T.2.2 n (Nat.le_refl _)]; decide) P (Or.inr (fun y w e => by cases e))
  rw [hpe] at h
  obtain ⟨s3, m3, u3, pl3, c3, b1, b2, b3, b4, b5, b6, b7, b8, b9⟩ := h
  have hl3 := b9.q (by omega) (fun y hy => (List.not_mem_nil hy).elim)
  obtain ⟨pd3, b9, b10, b11⟩ := b9
  obtain ⟨s4, d1, d2, d3, d4⟩ := settle_eq (F := F) (r := 1) (by omega) pl3 F s3 c3 b5 hl3 (by omega) (by omega) (by omega)
  rw [b9, flP_all pd3 [] c3 (fun y hy => by have := b11 y hy; omega) (fun y w e => by cases e), b10] at d3
  have d3' : CB s4 [] (qrow cq) := d3
  have d1' : f_Coder_settle F s3 (io 1) = some s4 := d1
  have hlen : c3.length + pl3.length = (qrow cq).length := by
    have := congrArg List.length b10
    rw [List.length_append, List.length_map] at this
    rw [b9, List.append_nil]; exact this
  refine ⟨s4, ?_, (fc.trans b4).trans d2, by omega, d3'.2.2.2.1, d3'.2.2.2.2⟩
  have e0 : f_Coder_turn F s (io n) = TP F n F (sI (sI (sI s 1665 (io 0)) 1668 (io 0)) 1669 (io 0)) 0 0 := by
    simp (disch := omega) only [f_Coder_turn, Option.bind_some, Nat.reduceEqDiff, Nat.add_zero, Nat.zero_add, Nat.reduceLT, Nat.reduceLeDiff, Nat.reduceAdd, Nat.reduceSub, Nat.reduceMul, Nat.reduceDiv, Nat.lt_irrefl, Nat.not_lt_zero, Nat.zero_le, Nat.one_ne_zero, Nat.succ_ne_zero,  lt_def, i32_lit, reduceIte, P_isIn_eq, M_isIn_eq, M_goes_eq, or_false, false_or, or_true, true_or, and_true, true_and, and_false, false_and, not_true, not_false_eq_true, eq_self, if_true, if_false, not_or, not_and, Nat.not_lt, Nat.not_le]
  rw [e0, b1]
  obtain ⟨m3, rfl⟩ : ∃ m', m3 = m' + 1 := ⟨m3 - 1, by omega⟩
  show f_Coder_turn_b20 F (m3 + 1) s3 (io n) (io n) (io u3) = some s4
  by_cases hu40 : 40 ≤ u3
  · simp (disch := omega) only [f_Coder_turn_b20, Option.bind_some, Nat.reduceEqDiff, Nat.add_zero, Nat.zero_add, Nat.reduceLT, Nat.reduceLeDiff, Nat.reduceAdd, Nat.reduceSub, Nat.reduceMul, Nat.reduceDiv, Nat.lt_irrefl, Nat.not_lt_zero, Nat.zero_le, Nat.one_ne_zero, Nat.succ_ne_zero,  lt_def, i32_lit, reduceIte, P_isIn_eq, M_isIn_eq, M_goes_eq, or_false, false_or, or_true, true_or, and_true, true_and, and_false, false_and, not_true, not_false_eq_true, eq_self, if_true, if_false, not_or, not_and, Nat.not_lt, Nat.not_le, io_le, hu40, d1']
  · simp (disch := omega) only [f_Coder_turn_b20, Option.bind_some, Nat.reduceEqDiff, Nat.add_zero, Nat.zero_add, Nat.reduceLT, Nat.reduceLeDiff, Nat.reduceAdd, Nat.reduceSub, Nat.reduceMul, Nat.reduceDiv, Nat.lt_irrefl, Nat.not_lt_zero, Nat.zero_le, Nat.one_ne_zero, Nat.succ_ne_zero,  lt_def, i32_lit, reduceIte, P_isIn_eq, M_isIn_eq, M_goes_eq, or_false, false_or, or_true, true_or, and_true, true_and, and_false, false_and, not_true, not_false_eq_true, eq_self, if_true, if_false, not_or, not_and, Nat.not_lt, Nat.not_le, io_le, hu40, Nat.le_refl, d1']
end PQS
/-! how much a question weighs -/
def wtO (ch : Option (List CT)) : Nat := match ch with
  | none => 1
  | some c => c.length + 3
def szQ : List QT → Nat
  | [] => 0
  | x :: c => wtO x.2.2 + szQ c
theorem szQ_app {a b : List QT} : szQ (a ++ b) = szQ a + szQ b := by
  induction a with
  | nil => show szQ b = 0 + szQ b; omega
  | cons x a ih => show wtO x.2.2 + szQ (a ++ b) = wtO x.2.2 + szQ a + szQ b; omega
theorem chn_wt {α : Type} {t : Nat → Nat} {n : Nat} {wt : List α → Nat} {part : Nat → Option (List α) × Nat} {sg : Nat → Bool} {tk : Nat → α} (T : TXT t n) (h0 : sg 0 = false) (hw : ∀ a b c, wt (a ++ b ++ [tk c]) = wt a + wt b + 1)
    (hp : ∀ i, i ≤ n → ∀ c, (part i).1 = some c → wt c + i ≤ (part i).2 ∧ (part i).2 ≤ n) {i0 : Nat} : ∀ k acc i c, i ≤ n → wt acc + i0 ≤ i → (chn t part sg tk k acc i).1 = some c → wt c + i0 ≤ (chn t part sg tk k acc i).2 := by
  intro k
  induction k with
  | zero => intro acc i c hi hacc hc; cases hc; exact hacc
  | succ k ih =>
    intro acc i c hi hacc hc
    unfold chn at hc ⊢
    by_cases h : sg (t i) = true
    · rw [if_pos h] at hc ⊢
      have i1 := T.bin h h0
      cases hq : (part (i + 1)).1 with
      | none => rw [hq] at hc; cases hc
      | some c2 =>
        rw [hq] at hc
        obtain ⟨g1, g2⟩ := hp (i + 1) i1 c2 hq
        exact ih _ _ c g2 (by rw [hw]; omega) hc
    · rw [if_neg h] at hc ⊢
      cases hc; exact hacc
theorem pQ_wt {t : Nat → Nat} {n : Nat} (T : TXT t n) : ∀ d g i c, (g = 0 ∨ g = 1 ∨ g = 2 ∨ g = 6) → i ≤ n → (pQ t d g i).1 = some c → szQ c + i ≤ (pQ t d g i).2 := by
  have hbin : ∀ (a b : List QT) c, szQ (a ++ b ++ [tkQ c]) = szQ a + szQ b + 1 := fun a b c => by rw [szQ_app, szQ_app]; rfl
  intro d
  induction d with
  | zero => intro g i c hg hi hc; cases hc
  | succ d ih =>
    have hp : ∀ g, (g = 0 ∨ g = 1 ∨ g = 2 ∨ g = 6) → ∀ i, i ≤ n → ∀ c, (pQ t d g i).1 = some c → szQ c + i ≤ (pQ t d g i).2 ∧ (pQ t d g i).2 ≤ n := fun g hg i hi c hc => ⟨ih g i c hg hi hc, (pQ_gd T d g i hg hi).2.1⟩
    have hch : ∀ g g' most i c, (g = 0 ∨ g = 1 ∨ g = 2 ∨ g = 6) → g' ≤ 2 → i ≤ n → (chain t (pQ t d g) (sgc g') tkQ most i).1 = some c → szQ c + i ≤ (chain t (pQ t d g) (sgc g') tkQ most i).2 := by
      intro g g' most i c hg hg' hi hc
      have h0 : sgc g' 0 = false := by rcases (by omega : g' = 0 ∨ g' = 1 ∨ g' = 2) with rfl | rfl | rfl <;> rfl
      unfold chain at hc ⊢
      cases hq : (pQ t d g i).1 with
      | none => rw [hq] at hc; cases hc
      | some c2 =>
        rw [hq] at hc
        obtain ⟨g1, g2⟩ := hp g hg i hi c2 hq
        exact chn_wt T h0 hbin (hp g hg) most c2 _ c g2 g1 hc
    intro g i c hg hi hc
    rcases hg with rfl | rfl | rfl | rfl
    · exact hch 1 0 1 i c (by omega) (by omega) hi hc
    · exact hch 2 1 40 i c (by omega) (by omega) hi hc
    · exact hch 6 2 40 i c (by omega) (by omega) hi hc
    · have hc' : (if t i = 45 then post (tkQ 126) (pQ t d 6 (i + 1)) else if t i = 40 then clo t (pQ t d 0 (i + 1)) else if agc (t i) = true then pAg t (d - 1) i else numE (pNum t i)).1 = some c := hc
      show szQ c + i ≤ (if t i = 45 then post (tkQ 126) (pQ t d 6 (i + 1)) else if t i = 40 then clo t (pQ t d 0 (i + 1)) else if agc (t i) = true then pAg t (d - 1) i else numE (pNum t i)).2
      by_cases h1 : t i = 45
      · rw [if_pos h1] at hc' ⊢
        unfold post at hc' ⊢
        cases hq : (pQ t d 6 (i + 1)).1 with
        | none => rw [hq] at hc'; cases hc'
        | some c2 =>
          rw [hq] at hc'
          have := ih 6 (i + 1) c2 (by omega) (T.in' h1) hq
          cases hc'
          dsimp only
          rw [szQ_app]
          show szQ c2 + 1 + i ≤ _
          omega
      · rw [if_neg h1] at hc' ⊢
        by_cases h2 : t i = 40
        · rw [if_pos h2] at hc' ⊢
          unfold clo at hc' ⊢
          cases hq : (pQ t d 0 (i + 1)).1 with
          | none => rw [hq] at hc'; cases hc'
          | some c2 =>
            rw [hq] at hc'
            dsimp only at hc' ⊢
            have := ih 0 (i + 1) c2 (by omega) (T.in' h2) hq
            by_cases h41 : t (pQ t d 0 (i + 1)).2 = 41
            · rw [if_pos h41] at hc' ⊢
              cases hc'
              show szQ c + i ≤ (pQ t d 0 (i + 1)).2 + 1
              omega
            · rw [if_neg h41] at hc'; cases hc'
        · rw [if_neg h2] at hc' ⊢
          by_cases h3 : agc (t i) = true
          · rw [if_pos h3] at hc' ⊢
            have hag : ∀ k f i2, i + 2 ≤ i2 → i2 ≤ n → (pAg2 t (d - 1) k f i2).1 = some c → szQ c + i ≤ (pAg2 t (d - 1) k f i2).2 := by
              intro k f i2 hi2 hin hcc
              unfold pAg2 at hcc ⊢
              by_cases h58 : t i2 = 58
              · rw [if_pos h58] at hcc ⊢
                unfold ag2E clo at hcc ⊢
                have gC := pC_gd T (d - 1) 3 (i2 + 1) (by omega) (T.in' h58)
                cases hq : (pC t (d - 1) 3 (i2 + 1)).1 with
                | none => rw [hq] at hcc; cases hcc
                | some cc =>
                  rw [hq] at hcc
                  dsimp only at hcc ⊢
                  have := (gC.2.2 cc hq).2.1
                  by_cases h41 : t (pC t (d - 1) 3 (i2 + 1)).2 = 41
                  · rw [if_pos h41] at hcc ⊢
                    cases hcc
                    show cc.length + 3 + 0 + i ≤ (pC t (d - 1) 3 (i2 + 1)).2 + 1
                    omega
                  · rw [if_neg h41] at hcc; cases hcc
              · rw [if_neg h58] at hcc ⊢
                unfold clo at hcc ⊢
                dsimp only at hcc ⊢
                by_cases h41 : t i2 = 41
                · rw [if_pos h41] at hcc ⊢
                  cases hcc
                  show 1 + 0 + i ≤ i2 + 1
                  omega
                · rw [if_neg h41] at hcc; cases hcc
            unfold pAg at hc' ⊢
            by_cases h40 : t (i + 1) = 40
            · rw [if_pos h40] at hc' ⊢
              by_cases h110 : t i = 110
              · rw [if_pos h110] at hc' ⊢
                exact hag _ _ _ (by omega) (T.in' h40) hc'
              · rw [if_neg h110] at hc' ⊢
                by_cases hf : fdc (t (i + 2)) = true
                · rw [if_pos hf] at hc' ⊢
                  exact hag _ _ _ (by omega) (T.bin hf) hc'
                · rw [if_neg hf] at hc'; cases hc'
            · rw [if_neg h40] at hc'; cases hc'
          · rw [if_neg h3] at hc' ⊢
            unfold numE at hc' ⊢
            have gn := num_gd T hi
            cases hv : (pNum t i).1 with
            | none => rw [hv] at hc'; cases hc'
            | some v =>
              rw [hv] at hc'
              have := (gn.2.2 v hv).1
              cases hc'
              show 1 + 0 + i ≤ (pNum t i).2
              omega
theorem ques_wt {t : Nat → Nat} {n : Nat} {c : List QT} (T : TXT t n) (h : ques t n = some c) : szQ c ≤ n := by
  obtain ⟨q1, q2, q3, q4, q5⟩ := ques_ok T h
  have := pQ_wt T 200 0 0 c (Or.inl rfl) (Nat.zero_le _) q3
  have hpe : (pQ t 200 0 0).2 = n := q4
  omega
