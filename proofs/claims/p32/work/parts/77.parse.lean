/-! the texts that the law types, as questions -/
theorem chn_no {α : Type} {t : Nat → Nat} {part : Nat → Option (List α) × Nat} {sg : Nat → Bool} {tk : Nat → α} {k i : Nat} {acc : List α} (h : sg (t i) = false) : chn t part sg tk k acc i = (some acc, i) := by
  cases k with
  | zero => rfl
  | succ k => rw [chn, if_neg (by rw [h]; decide)]
theorem chain_one {α : Type} {t : Nat → Nat} {part : Nat → Option (List α) × Nat} {sg : Nat → Bool} {tk : Nat → α} {k i j : Nat} {c : List α} (hp : part i = (some c, j)) (h : sg (t j) = false) : chain t part sg tk k i = (some c, j) := by
  unfold chain; rw [hp]; exact chn_no h
theorem chain_two {α : Type} {t : Nat → Nat} {part : Nat → Option (List α) × Nat} {sg : Nat → Bool} {tk : Nat → α} {k i j m : Nat} {a b : List α} (hp : part i = (some a, j)) (h1 : sg (t j) = true) (hp2 : part (j + 1) = (some b, m)) (h : sg (t m) = false) : chain t part sg tk (k + 1) i = (some (a ++ b ++ [tk (t j)]), m) := by
  unfold chain; rw [hp]
  show chn t part sg tk (k + 1) a j = _
  rw [chn, if_pos h1, hp2]
  exact chn_no h
section PP
variable {t : Nat → Nat} {d i j m : Nat}
theorem pCmp_ok (h0 : fdc (t i) = true) (h1 : cmc (t (i + 1)) = true) (h2 : dgt (t (i + 2)) = true) (h3 : dgt (t (i + 3)) = false) : pCmp t i = (some [(t (i + 1), t i, t (i + 2) - 48, 0)], i + 3) := by
  have h4 : ¬ t (i + 2) = 45 := fun e => by rw [e] at h2; exact absurd h2 (by decide)
  have h5 : nb t 4 0 (i + 2) = (t (i + 2) - 48, i + 3) := by
    rw [nb, if_pos h2, nb, if_neg (by rw [h3]; decide)]; simp
  unfold pCmp cmpE pNum
  rw [if_pos h0, if_pos h1, if_neg h4, if_pos h2, h5]
theorem pC_cmp (h : fdc (t i) = true) : pC t (d + 1) 5 i = pCmp t i := by
  have h1 : ¬ t i = 33 := fun e => by rw [e] at h; exact absurd h (by decide)
  have h2 : ¬ t i = 40 := fun e => by rw [e] at h; exact absurd h (by decide)
  rw [pC, if_neg (by decide), if_neg (by decide), if_neg h1, if_neg h2]
theorem pC_4 {c : List CT} (h : pC t d 5 i = (some c, j)) (h4 : sgc 4 (t j) = false) : pC t (d + 1) 4 i = (some c, j) := by
  rw [pC, if_neg (by decide), if_pos rfl]; exact chain_one h h4
theorem pC_3 {c : List CT} (h : pC t d 4 i = (some c, j)) (h3 : sgc 3 (t j) = false) : pC t (d + 1) 3 i = (some c, j) := by
  rw [pC, if_pos rfl]; exact chain_one h h3
theorem pC_and {a b : List CT} (h : pC t d 5 i = (some a, j)) (hj : t j = 38) (h' : pC t d 5 (j + 1) = (some b, m)) (h4 : sgc 4 (t m) = false) : pC t (d + 1) 4 i = (some (a ++ b ++ [(38, 0, 0, 0)]), m) := by
  rw [pC, if_neg (by decide), if_pos rfl]
  have := chain_two (tk := tkC) (k := 39) (sg := sgc 4) h (by rw [hj]; decide) h' h4
  rw [hj] at this; exact this
theorem pC_or {a b : List CT} (h : pC t d 4 i = (some a, j)) (hj : t j = 124) (h' : pC t d 4 (j + 1) = (some b, m)) (h3 : sgc 3 (t m) = false) : pC t (d + 1) 3 i = (some (a ++ b ++ [(124, 0, 0, 0)]), m) := by
  rw [pC, if_pos rfl]
  have := chain_two (tk := tkC) (k := 39) (sg := sgc 3) h (by rw [hj]; decide) h' h3
  rw [hj] at this; exact this
theorem pC_not {c : List CT} (h0 : t i = 33) (h1 : t (i + 1) = 40) (h : pC t d 3 (i + 2) = (some c, j)) (hj : t j = 41) : pC t (d + 2) 5 i = (some (c ++ [(33, 0, 0, 0)]), j + 1) := by
  have e : pC t (d + 1) 5 (i + 1) = (some c, j + 1) := by
    rw [pC, if_neg (by decide), if_neg (by decide), if_neg (by rw [h1]; decide), if_pos h1, h]
    unfold clo; exact if_pos hj
  rw [pC, if_neg (by decide), if_neg (by decide), if_pos h0, e]; rfl
theorem pQ_6 {x : List QT} (h0 : agc (t i) = true) (h : pAg t (d - 1) i = (some x, j)) : pQ t (d + 1) 6 i = (some x, j) := by
  have h1 : ¬ t i = 45 := fun e => by rw [e] at h0; exact absurd h0 (by decide)
  have h2 : ¬ t i = 40 := fun e => by rw [e] at h0; exact absurd h0 (by decide)
  rw [pQ, if_neg (by decide), if_neg (by decide), if_neg (by decide), if_neg h1, if_neg h2, if_pos h0]; exact h
theorem pQ_0 {x : List QT} (h0 : agc (t i) = true) (h : pAg t (d - 1) i = (some x, j)) (hj : t j = 0) : pQ t (d + 4) 0 i = (some x, j) := by
  have e6 := pQ_6 h0 h
  have e2 : pQ t (d + 2) 2 i = (some x, j) := by
    rw [pQ, if_neg (by decide), if_neg (by decide), if_pos rfl]; exact chain_one e6 (by rw [hj]; decide)
  have e1 : pQ t (d + 3) 1 i = (some x, j) := by
    rw [pQ, if_neg (by decide), if_pos rfl]; exact chain_one e2 (by rw [hj]; decide)
  rw [pQ, if_pos rfl]; exact chain_one e1 (by rw [hj]; decide)
theorem ques_of {n : Nat} {x : List QT} (h0 : agc (t 0) = true) (h : pAg t 195 0 = (some x, n)) (hn : t n = 0) : ques t n = some x := by
  have e : pQ t 200 0 0 = (some x, n) := pQ_0 (d := 196) h0 h hn
  unfold ques perr
  rw [e]; exact if_pos (Nat.le_refl _)
/-- from the place of the colon or the end on -/
theorem pAg2_no (d k f : Nat) (h : t i = 41) : pAg2 t d k f i = (some [(k, f, none)], i + 1) := by
  unfold pAg2 clo
  rw [if_neg (by rw [h]; decide)]; exact if_pos h
theorem pAg2_ch {k f : Nat} {c : List CT} (h : t i = 58) (hc : pC t d 3 (i + 1) = (some c, j)) (hj : t j = 41) : pAg2 t d k f i = (some [(k, f, some c)], j + 1) := by
  unfold pAg2 ag2E clo
  rw [if_pos h, hc]; exact if_pos hj
/-- one comparison, or two -/
theorem pC_one (h0 : fdc (t i) = true) (h1 : cmc (t (i + 1)) = true) (h2 : dgt (t (i + 2)) = true) (h3 : t (i + 3) = 41) : pC t (d + 3) 3 i = (some [(t (i + 1), t i, t (i + 2) - 48, 0)], i + 3) :=
  pC_3 (pC_4 ((pC_cmp h0).trans (pCmp_ok h0 h1 h2 (by rw [h3]; decide))) (by rw [h3]; decide)) (by rw [h3]; decide)
theorem pC_two (h0 : fdc (t i) = true) (h1 : cmc (t (i + 1)) = true) (h2 : dgt (t (i + 2)) = true) (h3 : t (i + 3) = 38 ∨ t (i + 3) = 124) (h4 : fdc (t (i + 4)) = true) (h5 : cmc (t (i + 5)) = true) (h6 : dgt (t (i + 6)) = true) (h7 : t (i + 7) = 41) :
    pC t (d + 3) 3 i = (some [(t (i + 1), t i, t (i + 2) - 48, 0), (t (i + 5), t (i + 4), t (i + 6) - 48, 0), (t (i + 3), 0, 0, 0)], i + 7) := by
  have a : pC t (d + 1) 5 i = (some [(t (i + 1), t i, t (i + 2) - 48, 0)], i + 3) := (pC_cmp h0).trans (pCmp_ok h0 h1 h2 (by rcases h3 with h | h <;> rw [h] <;> decide))
  have b : pC t (d + 1) 5 (i + 4) = (some [(t (i + 5), t (i + 4), t (i + 6) - 48, 0)], i + 7) := (pC_cmp h4).trans (pCmp_ok (i := i + 4) h4 h5 h6 (by rw [show i + 4 + 3 = i + 7 from rfl, h7]; decide))
  rcases h3 with h3 | h3
  · have e := pC_3 (pC_and a h3 b (by rw [h7]; decide)) (by rw [h7]; decide)
    rw [h3]; exact e
  · have e := pC_or (pC_4 a (by rw [h3]; decide)) h3 (pC_4 b (by rw [h7]; decide)) (by rw [h7]; decide)
    rw [h3]; exact e
end PP
/-! the pieces of the law's texts -/
def kch (k : Nat) : Nat := if k = 0 then 110 else if k = 1 then 115 else if k = 2 then 109 else if k = 3 then 120 else if k = 4 then 100 else 116
def fch (k : Nat) : Nat := if k = 0 then 112 else if k = 1 then 108 else if k = 2 then 118 else 104
def sch (k : Nat) : Nat := if k = 0 then 60 else if k = 1 then 62 else 61
def och (k : Nat) : Nat := if k = 1 then 38 else 124
def z417 (l : List Nat) : List Nat := l ++ [41]
def z388 (way : Nat) (l : List Nat) : List Nat := z417 (if way < 2 then l else l ++ [41])
def z350 (x way : Nat) (l : List Nat) : List Nat := z388 way (l ++ [fch (x / 360 % 2)] ++ [62] ++ [48 + x / 720 % 6])
def z292 (x way : Nat) (l : List Nat) : List Nat := if x / 120 % 3 = 0 then z388 way l else z350 x way (l ++ [och (x / 120 % 3)])
def z264 (x way : Nat) (l : List Nat) : List Nat := z292 x way (l ++ [sch (x / 4 % 3)] ++ [48 + x / 12 % 10])
def z183 (x way : Nat) (l : List Nat) : List Nat := z264 x way (l ++ [fch (x % 4)])
def z133 (x way : Nat) (l : List Nat) : List Nat := if way = 0 then z417 l else z183 x way (if way < 2 then l ++ [58] else l ++ [58] ++ [33] ++ [40])
def z79 (kind field x way : Nat) (l : List Nat) : List Nat := z133 x way (if kind = 0 then l else l ++ [fch field])
def vtx (kind field x way : Nat) : List Nat := z79 kind field x way ([] ++ [kch kind] ++ [40])
def csx (x : Nat) : List CT := if x / 120 % 3 = 0 then [(sch (x / 4 % 3), fch (x % 4), x / 12 % 10, 0)] else [(sch (x / 4 % 3), fch (x % 4), x / 12 % 10, 0), (62, fch (x / 360 % 2), x / 720 % 6, 0), (och (x / 120 % 3), 0, 0, 0)]
def chx (x way : Nat) : Option (List CT) := if way = 0 then none else if way < 2 then some (csx x) else some (csx x ++ [(33, 0, 0, 0)])
def vqx (kind field x way : Nat) : QT := (kch kind, if kind = 0 then 0 else fch field, chx x way)
theorem fch_ok (k : Nat) : fdc (fch k) = true := by unfold fch; (repeat' split) <;> rfl
theorem sch_ok (k : Nat) : cmc (sch k) = true := by unfold sch; (repeat' split) <;> rfl
theorem kch_ok (k : Nat) : agc (kch k) = true := by unfold kch; (repeat' split) <;> rfl
theorem kch_ne {k : Nat} (h : k ≠ 0) : kch k ≠ 110 := by unfold kch; rw [if_neg h]; (repeat' split) <;> decide
theorem och_or (k : Nat) : och k = 38 ∨ och k = 124 := by unfold och; split; exact Or.inl rfl; exact Or.inr rfl
theorem dg_ok {k : Nat} (h : k ≤ 9) : dgt (48 + k) = true ∧ 48 + k - 48 = k := ⟨by unfold dgt; simp; omega, by omega⟩
theorem vch_b (k : Nat) : (32 ≤ kch k ∧ kch k ≤ 126) ∧ (32 ≤ fch k ∧ fch k ≤ 126) ∧ (32 ≤ sch k ∧ sch k ≤ 126) ∧ (32 ≤ och k ∧ och k ≤ 126) := by
  refine ⟨?_, ?_, ?_, ?_⟩
  · unfold kch; (repeat' split) <;> decide
  · unfold fch; (repeat' split) <;> decide
  · unfold sch; (repeat' split) <;> decide
  · unfold och; (repeat' split) <;> decide
/-- the text of a value is its question -/
theorem vtx_q (kind field x way : Nat) : ques (txt (vtx kind field x way)) (vtx kind field x way).length = some [vqx kind field x way] := by
  obtain ⟨k1, hk1⟩ : ∃ k1, k1 = kch kind := ⟨_, rfl⟩
  obtain ⟨f0, hf0⟩ : ∃ f0, f0 = fch field := ⟨_, rfl⟩
  obtain ⟨f1, hf1⟩ : ∃ f1, f1 = fch (x % 4) := ⟨_, rfl⟩
  obtain ⟨s1, hs1⟩ : ∃ s1, s1 = sch (x / 4 % 3) := ⟨_, rfl⟩
  obtain ⟨d1, hd1⟩ : ∃ d1, d1 = x / 12 % 10 := ⟨_, rfl⟩
  obtain ⟨f2, hf2⟩ : ∃ f2, f2 = fch (x / 360 % 2) := ⟨_, rfl⟩
  obtain ⟨d2, hd2⟩ : ∃ d2, d2 = x / 720 % 6 := ⟨_, rfl⟩
  obtain ⟨o1, ho1⟩ : ∃ o1, o1 = och (x / 120 % 3) := ⟨_, rfl⟩
  have a1 := kch_ok kind
  have a2 := fch_ok field
  have a3 := fch_ok (x % 4)
  have a4 := sch_ok (x / 4 % 3)
  have a5 := dg_ok (show x / 12 % 10 ≤ 9 by omega)
  have a6 := fch_ok (x / 360 % 2)
  have a7 := dg_ok (show x / 720 % 6 ≤ 9 by omega)
  have a8 := och_or (x / 120 % 3)
  rw [← hk1] at a1
  rw [← hf0] at a2
  rw [← hf1] at a3
  rw [← hs1] at a4
  rw [← hd1] at a5
  rw [← hf2] at a6
  rw [← hd2] at a7
  rw [← ho1] at a8
  unfold vtx vqx z79 z133 z183 z264 z292 z350 z388 z417 chx csx
  rw [← hk1, ← hf0, ← hf1, ← hs1, ← hd1, ← hf2, ← hd2, ← ho1]
  have k110 : kind ≠ 0 → ¬ k1 = 110 := fun h => by rw [hk1]; exact kch_ne h
  have k0 : kind = 0 → k1 = 110 := fun h => by rw [hk1, h]; rfl
  clear hk1 hf0 hf1 hs1 hd1 hf2 hd2 ho1
  rcases (by omega : way = 0 ∨ way = 1 ∨ 2 ≤ way) with hw | hw | hw
  · subst hw
    by_cases hk : kind = 0
    · rw [k0 hk] at a1 ⊢
      simp only [hk, if_true]
      refine ques_of a1 ?_ rfl
      rfl
    · simp only [hk, if_true, if_false]
      refine ques_of a1 ?_ rfl
      show pAg (txt [k1, 40, f0, 41]) 195 0 = _
      unfold pAg
      rw [if_pos (show txt [k1, 40, f0, 41] (0 + 1) = 40 from rfl), if_neg (show ¬ txt [k1, 40, f0, 41] 0 = 110 from k110 hk), if_pos (show fdc (txt [k1, 40, f0, 41] (0 + 2)) = true from a2)]
      exact pAg2_no _ _ _ rfl
  · subst hw
    by_cases hx : x / 120 % 3 = 0
    · by_cases hk : kind = 0
      · rw [k0 hk] at a1 ⊢
        simp only [hk, hx, if_true, Nat.one_ne_zero, if_false, show (1 : Nat) < 2 by decide]
        refine ques_of a1 ?_ rfl
        show pAg (txt [110, 40, 58, f1, s1, 48 + d1, 41]) 195 0 = _
        unfold pAg
        rw [if_pos (show txt [110, 40, 58, f1, s1, 48 + d1, 41] (0 + 1) = 40 from rfl), if_pos (show txt [110, 40, 58, f1, s1, 48 + d1, 41] 0 = 110 from rfl)]
        have e := pC_one (t := txt [110, 40, 58, f1, s1, 48 + d1, 41]) (d := 192) (i := 3) a3 a4 a5.1 rfl
        rw [show txt [110, 40, 58, f1, s1, 48 + d1, 41] (3 + 2) - 48 = d1 from a5.2] at e
        exact pAg2_ch rfl e rfl
      · simp only [hk, hx, if_true, Nat.one_ne_zero, if_false, show (1 : Nat) < 2 by decide]
        refine ques_of a1 ?_ rfl
        show pAg (txt [k1, 40, f0, 58, f1, s1, 48 + d1, 41]) 195 0 = _
        unfold pAg
        rw [if_pos (show txt [k1, 40, f0, 58, f1, s1, 48 + d1, 41] (0 + 1) = 40 from rfl), if_neg (show ¬ txt [k1, 40, f0, 58, f1, s1, 48 + d1, 41] 0 = 110 from k110 hk), if_pos (show fdc (txt [k1, 40, f0, 58, f1, s1, 48 + d1, 41] (0 + 2)) = true from a2)]
        have e := pC_one (t := txt [k1, 40, f0, 58, f1, s1, 48 + d1, 41]) (d := 192) (i := 4) a3 a4 a5.1 rfl
        rw [show txt [k1, 40, f0, 58, f1, s1, 48 + d1, 41] (4 + 2) - 48 = d1 from a5.2] at e
        exact pAg2_ch rfl e rfl
    · by_cases hk : kind = 0
      · rw [k0 hk] at a1 ⊢
        simp only [hk, hx, if_true, Nat.one_ne_zero, if_false, show (1 : Nat) < 2 by decide]
        refine ques_of a1 ?_ rfl
        show pAg (txt [110, 40, 58, f1, s1, 48 + d1, o1, f2, 62, 48 + d2, 41]) 195 0 = _
        unfold pAg
        rw [if_pos (show txt [110, 40, 58, f1, s1, 48 + d1, o1, f2, 62, 48 + d2, 41] (0 + 1) = 40 from rfl), if_pos (show txt [110, 40, 58, f1, s1, 48 + d1, o1, f2, 62, 48 + d2, 41] 0 = 110 from rfl)]
        have e := pC_two (t := txt [110, 40, 58, f1, s1, 48 + d1, o1, f2, 62, 48 + d2, 41]) (d := 192) (i := 3) a3 a4 a5.1 a8 a6 rfl a7.1 rfl
        rw [show txt [110, 40, 58, f1, s1, 48 + d1, o1, f2, 62, 48 + d2, 41] (3 + 2) - 48 = d1 from a5.2, show txt [110, 40, 58, f1, s1, 48 + d1, o1, f2, 62, 48 + d2, 41] (3 + 6) - 48 = d2 from a7.2] at e
        exact pAg2_ch rfl e rfl
      · simp only [hk, hx, if_true, Nat.one_ne_zero, if_false, show (1 : Nat) < 2 by decide]
        refine ques_of a1 ?_ rfl
        show pAg (txt [k1, 40, f0, 58, f1, s1, 48 + d1, o1, f2, 62, 48 + d2, 41]) 195 0 = _
        unfold pAg
        rw [if_pos (show txt [k1, 40, f0, 58, f1, s1, 48 + d1, o1, f2, 62, 48 + d2, 41] (0 + 1) = 40 from rfl), if_neg (show ¬ txt [k1, 40, f0, 58, f1, s1, 48 + d1, o1, f2, 62, 48 + d2, 41] 0 = 110 from k110 hk), if_pos (show fdc (txt [k1, 40, f0, 58, f1, s1, 48 + d1, o1, f2, 62, 48 + d2, 41] (0 + 2)) = true from a2)]
        have e := pC_two (t := txt [k1, 40, f0, 58, f1, s1, 48 + d1, o1, f2, 62, 48 + d2, 41]) (d := 192) (i := 4) a3 a4 a5.1 a8 a6 rfl a7.1 rfl
        rw [show txt [k1, 40, f0, 58, f1, s1, 48 + d1, o1, f2, 62, 48 + d2, 41] (4 + 2) - 48 = d1 from a5.2, show txt [k1, 40, f0, 58, f1, s1, 48 + d1, o1, f2, 62, 48 + d2, 41] (4 + 6) - 48 = d2 from a7.2] at e
        exact pAg2_ch rfl e rfl
  · have hw0 : ¬ way = 0 := by omega
    have hw2 : ¬ way < 2 := by omega
    by_cases hx : x / 120 % 3 = 0
    · by_cases hk : kind = 0
      · rw [k0 hk] at a1 ⊢
        simp only [hk, hx, if_true, hw0, hw2, if_false]
        refine ques_of a1 ?_ rfl
        show pAg (txt [110, 40, 58, 33, 40, f1, s1, 48 + d1, 41, 41]) 195 0 = _
        unfold pAg
        rw [if_pos (show txt [110, 40, 58, 33, 40, f1, s1, 48 + d1, 41, 41] (0 + 1) = 40 from rfl), if_pos (show txt [110, 40, 58, 33, 40, f1, s1, 48 + d1, 41, 41] 0 = 110 from rfl)]
        have e := pC_one (t := txt [110, 40, 58, 33, 40, f1, s1, 48 + d1, 41, 41]) (d := 188) (i := 5) a3 a4 a5.1 rfl
        rw [show txt [110, 40, 58, 33, 40, f1, s1, 48 + d1, 41, 41] (5 + 2) - 48 = d1 from a5.2] at e
        exact pAg2_ch rfl (pC_3 (pC_4 (pC_not (i := 3) rfl rfl e rfl) rfl) rfl) rfl
      · simp only [hk, hx, if_true, hw0, hw2, if_false]
        refine ques_of a1 ?_ rfl
        show pAg (txt [k1, 40, f0, 58, 33, 40, f1, s1, 48 + d1, 41, 41]) 195 0 = _
        unfold pAg
        rw [if_pos (show txt [k1, 40, f0, 58, 33, 40, f1, s1, 48 + d1, 41, 41] (0 + 1) = 40 from rfl), if_neg (show ¬ txt [k1, 40, f0, 58, 33, 40, f1, s1, 48 + d1, 41, 41] 0 = 110 from k110 hk), if_pos (show fdc (txt [k1, 40, f0, 58, 33, 40, f1, s1, 48 + d1, 41, 41] (0 + 2)) = true from a2)]
        have e := pC_one (t := txt [k1, 40, f0, 58, 33, 40, f1, s1, 48 + d1, 41, 41]) (d := 188) (i := 6) a3 a4 a5.1 rfl
        rw [show txt [k1, 40, f0, 58, 33, 40, f1, s1, 48 + d1, 41, 41] (6 + 2) - 48 = d1 from a5.2] at e
        exact pAg2_ch rfl (pC_3 (pC_4 (pC_not (i := 4) rfl rfl e rfl) rfl) rfl) rfl
    · by_cases hk : kind = 0
      · rw [k0 hk] at a1 ⊢
        simp only [hk, hx, if_true, hw0, hw2, if_false]
        refine ques_of a1 ?_ rfl
        show pAg (txt [110, 40, 58, 33, 40, f1, s1, 48 + d1, o1, f2, 62, 48 + d2, 41, 41]) 195 0 = _
        unfold pAg
        rw [if_pos (show txt [110, 40, 58, 33, 40, f1, s1, 48 + d1, o1, f2, 62, 48 + d2, 41, 41] (0 + 1) = 40 from rfl), if_pos (show txt [110, 40, 58, 33, 40, f1, s1, 48 + d1, o1, f2, 62, 48 + d2, 41, 41] 0 = 110 from rfl)]
        have e := pC_two (t := txt [110, 40, 58, 33, 40, f1, s1, 48 + d1, o1, f2, 62, 48 + d2, 41, 41]) (d := 188) (i := 5) a3 a4 a5.1 a8 a6 rfl a7.1 rfl
        rw [show txt [110, 40, 58, 33, 40, f1, s1, 48 + d1, o1, f2, 62, 48 + d2, 41, 41] (5 + 2) - 48 = d1 from a5.2, show txt [110, 40, 58, 33, 40, f1, s1, 48 + d1, o1, f2, 62, 48 + d2, 41, 41] (5 + 6) - 48 = d2 from a7.2] at e
        exact pAg2_ch rfl (pC_3 (pC_4 (pC_not (i := 3) rfl rfl e rfl) rfl) rfl) rfl
      · simp only [hk, hx, if_true, hw0, hw2, if_false]
        refine ques_of a1 ?_ rfl
        show pAg (txt [k1, 40, f0, 58, 33, 40, f1, s1, 48 + d1, o1, f2, 62, 48 + d2, 41, 41]) 195 0 = _
        unfold pAg
        rw [if_pos (show txt [k1, 40, f0, 58, 33, 40, f1, s1, 48 + d1, o1, f2, 62, 48 + d2, 41, 41] (0 + 1) = 40 from rfl), if_neg (show ¬ txt [k1, 40, f0, 58, 33, 40, f1, s1, 48 + d1, o1, f2, 62, 48 + d2, 41, 41] 0 = 110 from k110 hk), if_pos (show fdc (txt [k1, 40, f0, 58, 33, 40, f1, s1, 48 + d1, o1, f2, 62, 48 + d2, 41, 41] (0 + 2)) = true from a2)]
        have e := pC_two (t := txt [k1, 40, f0, 58, 33, 40, f1, s1, 48 + d1, o1, f2, 62, 48 + d2, 41, 41]) (d := 188) (i := 6) a3 a4 a5.1 a8 a6 rfl a7.1 rfl
        rw [show txt [k1, 40, f0, 58, 33, 40, f1, s1, 48 + d1, o1, f2, 62, 48 + d2, 41, 41] (6 + 2) - 48 = d1 from a5.2, show txt [k1, 40, f0, 58, 33, 40, f1, s1, 48 + d1, o1, f2, 62, 48 + d2, 41, 41] (6 + 6) - 48 = d2 from a7.2] at e
        exact pAg2_ch rfl (pC_3 (pC_4 (pC_not (i := 4) rfl rfl e rfl) rfl) rfl) rfl
/-- what is chosen, and what is not -/
theorem valQ_one (e : List Rec) (kind field x way : Nat) : valQ e [vqx kind field x way] = aggv e (kch kind) (if kind = 0 then 0 else fch field) (chx x way) := by
  have h1 : ¬ kch kind = 35 := fun h => by have := kch_ok kind; rw [h] at this; exact absurd this (by decide)
  have h2 := kch_ok kind
  show ([vqx kind field x way].foldl (fun st x => stQ e x st) []).headD 0 = _
  unfold vqx
  show (stQ e _ []).headD 0 = _
  unfold stQ
  rw [if_neg h1, if_pos h2]; rfl
theorem chB_not (r : Rec) (x : Nat) : chB (chx x 2) r = !chB (chx x 1) r := by
  show valC r (csx x ++ [(33, 0, 0, 0)]) = !valC r (csx x)
  unfold valC
  rw [runC_app]
  have h : ∃ b, runC r (csx x) [] = [b] := by
    have c1 := sch_ok (x / 4 % 3)
    unfold csx
    by_cases hx : x / 120 % 3 = 0
    · rw [if_pos hx]
      refine ⟨cmpv (sch (x / 4 % 3)) (fld (fch (x % 4)) r).toInt64 (sgn 0 (x / 12 % 10)), ?_⟩
      show stC r (sch (x / 4 % 3), fch (x % 4), x / 12 % 10, 0) [] = _
      unfold stC
      rw [if_pos c1]
    · rw [if_neg hx]
      have h1 : ∃ a, stC r (sch (x / 4 % 3), fch (x % 4), x / 12 % 10, 0) [] = [a] := ⟨cmpv (sch (x / 4 % 3)) (fld (fch (x % 4)) r).toInt64 (sgn 0 (x / 12 % 10)), by unfold stC; rw [if_pos c1]⟩
      obtain ⟨a, ha⟩ := h1
      have h2 : ∃ b, stC r (62, fch (x / 360 % 2), x / 720 % 6, 0) [a] = [b, a] := ⟨cmpv 62 (fld (fch (x / 360 % 2)) r).toInt64 (sgn 0 (x / 720 % 6)), by unfold stC; rw [if_pos (show cmc 62 = true by decide)]⟩
      obtain ⟨b, hb⟩ := h2
      show ∃ c, stC r (och (x / 120 % 3), 0, 0, 0) (stC r (62, fch (x / 360 % 2), x / 720 % 6, 0) (stC r (sch (x / 4 % 3), fch (x % 4), x / 12 % 10, 0) [])) = [c]
      rw [ha, hb]
      rcases och_or (x / 120 % 3) with h | h <;> rw [h] <;> exact ⟨_, rfl⟩
  obtain ⟨b, hb⟩ := h
  rw [hb]; rfl
