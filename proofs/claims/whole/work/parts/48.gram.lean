/-! the language, purely: a text is t below n; rows of codes, each sign behind its parts -/
abbrev CT : Type := Nat × Nat × Nat × Nat
abbrev QT : Type := Nat × Nat × Option (List CT)
def dgt (c : Nat) : Bool := decide (48 ≤ c ∧ c ≤ 57)
def fdc (c : Nat) : Bool := decide (c = 112 ∨ c = 108 ∨ c = 118 ∨ c = 104)
def cmc (c : Nat) : Bool := decide (c = 60 ∨ c = 62 ∨ c = 61)
def agc (c : Nat) : Bool := decide (c = 100 ∨ c = 109 ∨ c = 110 ∨ c = 115 ∨ c = 116 ∨ c = 120)
def sgc (g c : Nat) : Bool := if g = 0 then cmc c else if g = 1 then decide (c = 43 ∨ c = 45) else if g = 2 then decide (c = 42 ∨ c = 47) else if g = 3 then decide (c = 124) else if g = 4 then decide (c = 38) else false
def tkC (c : Nat) : CT := (c, 0, 0, 0)
def tkQ (c : Nat) : QT := (c, 0, none)
def nb (t : Nat → Nat) : Nat → Nat → Nat → Nat × Nat
  | 0, v, i => (v, i)
  | k + 1, v, i => if dgt (t i) = true then nb t k (10 * v + (t i - 48)) (i + 1) else (v, i)
def pNum (t : Nat → Nat) (i : Nat) : Option Nat × Nat := if dgt (t i) = true then (some (nb t 4 0 i).1, (nb t 4 0 i).2) else (none, i)
def cmpE (sg f b : Nat) (r : Option Nat × Nat) : Option (List CT) × Nat := match r.1 with
  | none => (none, r.2)
  | some v => (some [(sg, f, v, b)], r.2)
def pCmp (t : Nat → Nat) (i : Nat) : Option (List CT) × Nat := if fdc (t i) = true then (if cmc (t (i + 1)) = true then (if t (i + 2) = 45 then cmpE (t (i + 1)) (t i) 1 (pNum t (i + 3)) else cmpE (t (i + 1)) (t i) 0 (pNum t (i + 2))) else (none, i + 1)) else (none, i)
def chn {α : Type} (t : Nat → Nat) (part : Nat → Option (List α) × Nat) (sg : Nat → Bool) (tk : Nat → α) : Nat → List α → Nat → Option (List α) × Nat
  | 0, acc, i => (some acc, i)
  | k + 1, acc, i => if sg (t i) = true then (match (part (i + 1)).1 with
      | none => (none, (part (i + 1)).2)
      | some c => chn t part sg tk k (acc ++ c ++ [tk (t i)]) (part (i + 1)).2) else (some acc, i)
def chain {α : Type} (t : Nat → Nat) (part : Nat → Option (List α) × Nat) (sg : Nat → Bool) (tk : Nat → α) (most i : Nat) : Option (List α) × Nat := match (part i).1 with
  | none => (none, (part i).2)
  | some c => chn t part sg tk most c (part i).2
def clo {α : Type} (t : Nat → Nat) (r : Option (List α) × Nat) : Option (List α) × Nat := match r.1 with
  | none => (none, r.2)
  | some c => if t r.2 = 41 then (some c, r.2 + 1) else (none, r.2)
def post {α : Type} (x : α) (r : Option (List α) × Nat) : Option (List α) × Nat := match r.1 with
  | none => (none, r.2)
  | some c => (some (c ++ [x]), r.2)
def pC (t : Nat → Nat) : Nat → Nat → Nat → Option (List CT) × Nat
  | 0, _, i => (none, i)
  | d + 1, g, i => if g = 3 then chain t (pC t d 4) (sgc 3) tkC 40 i else if g = 4 then chain t (pC t d 5) (sgc 4) tkC 40 i
    else if t i = 33 then post (tkC 33) (pC t d 5 (i + 1)) else if t i = 40 then clo t (pC t d 3 (i + 1)) else pCmp t i
def ag2E (k f : Nat) (t : Nat → Nat) (r : Option (List CT) × Nat) : Option (List QT) × Nat := match r.1 with
  | none => (none, r.2)
  | some c => clo t (some [(k, f, some c)], r.2)
def pAg2 (t : Nat → Nat) (d k f i : Nat) : Option (List QT) × Nat := if t i = 58 then ag2E k f t (pC t d 3 (i + 1)) else clo t (some [(k, f, none)], i)
def pAg (t : Nat → Nat) (d i : Nat) : Option (List QT) × Nat := if t (i + 1) = 40 then (if t i = 110 then pAg2 t d (t i) 0 (i + 2) else if fdc (t (i + 2)) = true then pAg2 t d (t i) (t (i + 2)) (i + 3) else (none, i + 2)) else (none, i + 1)
def numE (r : Option Nat × Nat) : Option (List QT) × Nat := match r.1 with
  | none => (none, r.2)
  | some v => (some [(35, v, none)], r.2)
def pQ (t : Nat → Nat) : Nat → Nat → Nat → Option (List QT) × Nat
  | 0, _, i => (none, i)
  | d + 1, g, i => if g = 0 then chain t (pQ t d 1) (sgc 0) tkQ 1 i else if g = 1 then chain t (pQ t d 2) (sgc 1) tkQ 40 i else if g = 2 then chain t (pQ t d 6) (sgc 2) tkQ 40 i
    else if t i = 45 then post (tkQ 126) (pQ t d 6 (i + 1)) else if t i = 40 then clo t (pQ t d 0 (i + 1)) else if agc (t i) = true then pAg t (d - 1) i else numE (pNum t i)
/-! which rows are right; how high the pile is -/
def dc (x : CT) (d : Nat) : Option Nat := if cmc x.1 = true then some (d + 1) else if x.1 = 33 then (if 1 ≤ d then some d else none) else if 2 ≤ d then some (d - 1) else none
def depC : List CT → Nat → Option Nat
  | [], d => some d
  | x :: c, d => (dc x d).bind (depC c)
def tvC (x : CT) : Prop := (cmc x.1 = true ∧ fdc x.2.1 = true ∧ x.2.2.1 ≤ 9999 ∧ x.2.2.2 ≤ 1) ∨ x = (33, 0, 0, 0) ∨ ((x.1 = 38 ∨ x.1 = 124) ∧ x.2 = (0, 0, 0))
def okC (c : List CT) : Prop := (∀ x ∈ c, tvC x) ∧ ∀ d, depC c d = some (d + 1)
def dq (x : QT) (d : Nat) : Option Nat := if x.1 = 35 ∨ agc x.1 = true then some (d + 1) else if x.1 = 126 then (if 1 ≤ d then some d else none) else if 2 ≤ d then some (d - 1) else none
def depQ : List QT → Nat → Option Nat
  | [], d => some d
  | x :: c, d => (dq x d).bind (depQ c)
def qop (c : Nat) : Prop := c = 42 ∨ c = 43 ∨ c = 45 ∨ c = 47 ∨ c = 60 ∨ c = 61 ∨ c = 62
def tvQ (x : QT) : Prop := (x.1 = 35 ∧ x.2.1 ≤ 9999 ∧ x.2.2 = none) ∨ x = (126, 0, none) ∨ (qop x.1 ∧ x.2 = (0, none)) ∨ (agc x.1 = true ∧ ((x.1 = 110 ∧ x.2.1 = 0) ∨ (x.1 ≠ 110 ∧ fdc x.2.1 = true)) ∧ ∀ c, x.2.2 = some c → okC c ∧ c.length ≤ 40)
def okQ (c : List QT) : Prop := (∀ x ∈ c, tvQ x) ∧ ∀ d, depQ c d = some (d + 1)
theorem depC_app (a b : List CT) : ∀ d, depC (a ++ b) d = (depC a d).bind (depC b) := by
  induction a with
  | nil => intro d; rfl
  | cons x a ih =>
    intro d
    show (dc x d).bind (depC (a ++ b)) = ((dc x d).bind (depC a)).bind (depC b)
    cases dc x d with
    | none => rfl
    | some e => exact ih e
theorem depQ_app (a b : List QT) : ∀ d, depQ (a ++ b) d = (depQ a d).bind (depQ b) := by
  induction a with
  | nil => intro d; rfl
  | cons x a ih =>
    intro d
    show (dq x d).bind (depQ (a ++ b)) = ((dq x d).bind (depQ a)).bind (depQ b)
    cases dq x d with
    | none => rfl
    | some e => exact ih e
theorem okC_bin {a b : List CT} {x : CT} (ha : okC a) (hb : okC b) (hx : x.1 = 38 ∨ x.1 = 124) (h2 : x.2 = (0, 0, 0)) : okC (a ++ b ++ [x]) := by
  refine ⟨fun y hy => ?_, fun d => ?_⟩
  · rcases List.mem_append.mp hy with h | h
    · rcases List.mem_append.mp h with h | h
      · exact ha.1 y h
      · exact hb.1 y h
    · rw [List.mem_singleton.mp h]; exact Or.inr (Or.inr ⟨hx, h2⟩)
  · rw [depC_app, depC_app, ha.2 d, Option.bind_some, hb.2 (d + 1), Option.bind_some]
    show (dc x (d + 1 + 1)).bind (depC []) = _
    have e : dc x (d + 1 + 1) = some (d + 1) := by
      unfold dc
      rcases hx with h | h <;> rw [h, if_neg (by decide), if_neg (by decide), if_pos (by omega)] <;> rfl
    rw [e]; rfl
theorem okC_not {a : List CT} (ha : okC a) : okC (a ++ [tkC 33]) := by
  refine ⟨fun y hy => ?_, fun d => ?_⟩
  · rcases List.mem_append.mp hy with h | h
    · exact ha.1 y h
    · rw [List.mem_singleton.mp h]; exact Or.inr (Or.inl rfl)
  · rw [depC_app, ha.2 d, Option.bind_some]
    show (dc (tkC 33) (d + 1)).bind (depC []) = _
    have e : dc (tkC 33) (d + 1) = some (d + 1) := by
      unfold dc tkC
      rw [if_neg (by decide), if_pos rfl, if_pos (by omega)]
    rw [e]; rfl
theorem okC_one {x : CT} (h1 : cmc x.1 = true) (h2 : fdc x.2.1 = true) (h3 : x.2.2.1 ≤ 9999) (h4 : x.2.2.2 ≤ 1) : okC [x] := by
  refine ⟨fun y hy => ?_, fun d => ?_⟩
  · rw [List.mem_singleton.mp hy]; exact Or.inl ⟨h1, h2, h3, h4⟩
  · show (dc x d).bind (depC []) = _
    unfold dc
    rw [if_pos h1]; rfl
theorem okQ_bin {a b : List QT} {x : QT} (ha : okQ a) (hb : okQ b) (hx : qop x.1) (h2 : x.2 = (0, none)) : okQ (a ++ b ++ [x]) := by
  refine ⟨fun y hy => ?_, fun d => ?_⟩
  · rcases List.mem_append.mp hy with h | h
    · rcases List.mem_append.mp h with h | h
      · exact ha.1 y h
      · exact hb.1 y h
    · rw [List.mem_singleton.mp h]; exact Or.inr (Or.inr (Or.inl ⟨hx, h2⟩))
  · rw [depQ_app, depQ_app, ha.2 d, Option.bind_some, hb.2 (d + 1), Option.bind_some]
    show (dq x (d + 1 + 1)).bind (depQ []) = _
    have e : dq x (d + 1 + 1) = some (d + 1) := by
      unfold dq
      rcases hx with h | h | h | h | h | h | h <;> rw [h, if_neg (by decide), if_neg (by decide), if_pos (by omega)] <;> rfl
    rw [e]; rfl
theorem okQ_neg {a : List QT} (ha : okQ a) : okQ (a ++ [tkQ 126]) := by
  refine ⟨fun y hy => ?_, fun d => ?_⟩
  · rcases List.mem_append.mp hy with h | h
    · exact ha.1 y h
    · rw [List.mem_singleton.mp h]; exact Or.inr (Or.inl rfl)
  · rw [depQ_app, ha.2 d, Option.bind_some]
    show (dq (tkQ 126) (d + 1)).bind (depQ []) = _
    have e : dq (tkQ 126) (d + 1) = some (d + 1) := by
      unfold dq tkQ
      rw [if_neg (by decide), if_pos rfl, if_pos (by omega)]
    rw [e]; rfl
theorem okQ_num {v : Nat} (h : v ≤ 9999) : okQ [(35, v, none)] := by
  refine ⟨fun y hy => ?_, fun d => ?_⟩
  · rw [List.mem_singleton.mp hy]; exact Or.inl ⟨rfl, h, rfl⟩
  · show (dq (35, v, none) d).bind (depQ []) = _
    unfold dq
    rw [if_pos (Or.inl rfl)]; rfl
theorem okQ_agg {k f : Nat} {c : Option (List CT)} (h1 : agc k = true) (h2 : (k = 110 ∧ f = 0) ∨ (k ≠ 110 ∧ fdc f = true)) (h3 : ∀ x, c = some x → okC x ∧ x.length ≤ 40) : okQ [(k, f, c)] := by
  refine ⟨fun y hy => ?_, fun d => ?_⟩
  · rw [List.mem_singleton.mp hy]; exact Or.inr (Or.inr (Or.inr ⟨h1, h2, h3⟩))
  · show (dq (k, f, c) d).bind (depQ []) = _
    unfold dq
    rw [if_pos (Or.inr h1)]; rfl
/-! where the reading of a part ends -/
def TXT (t : Nat → Nat) (n : Nat) : Prop := n ≤ 40 ∧ (∀ k, k < n → 32 ≤ t k ∧ t k ≤ 126) ∧ ∀ k, n ≤ k → t k = 0
theorem TXT.in {t : Nat → Nat} {n k : Nat} (T : TXT t n) (h : t k ≠ 0) : k < n := by
  rcases Nat.lt_or_ge k n with h1 | h1
  · exact h1
  · exact absurd (T.2.2 k h1) h
theorem TXT.in' {t : Nat → Nat} {n k c : Nat} (T : TXT t n) (h : t k = c) (hc : c ≠ 0 := by decide) : k < n := T.in (by rw [h]; exact hc)
theorem TXT.bin {t : Nat → Nat} {n k : Nat} (T : TXT t n) {f : Nat → Bool} (h : f (t k) = true) (h0 : f 0 = false := by decide) : k < n := T.in (fun e => by rw [e, h0] at h; cases h)
/-- the result of a part read from i: where it ends, and what is right of its row -/
def GD {α : Type} (n i : Nat) (r : Option (List α) × Nat) (ok : List α → Nat → Prop) : Prop := i ≤ r.2 ∧ r.2 ≤ n ∧ ∀ c, r.1 = some c → i < r.2 ∧ c.length + i ≤ r.2 ∧ ok c r.2
theorem nb_gd {t : Nat → Nat} {n : Nat} (T : TXT t n) : ∀ k v i, i ≤ n → i ≤ (nb t k v i).2 ∧ (nb t k v i).2 ≤ n ∧ (nb t k v i).2 ≤ i + k ∧ ((nb t k v i).2 < i + k → dgt (t (nb t k v i).2) = false) ∧ (nb t k v i).1 < 10 ^ k * (v + 1) := by
  intro k
  induction k with
  | zero => intro v i hi; exact ⟨Nat.le_refl _, hi, Nat.le_refl _, fun h => absurd h (Nat.lt_irrefl _), by show v < 1 * (v + 1); omega⟩
  | succ k ih =>
    intro v i hi
    unfold nb
    by_cases h : dgt (t i) = true
    · rw [if_pos h]
      have hin := T.bin h
      obtain ⟨a1, a2, a3, a4, a5⟩ := ih (10 * v + (t i - 48)) (i + 1) hin
      refine ⟨by omega, a2, by omega, fun h2 => a4 (by omega), ?_⟩
      have h9 : t i - 48 ≤ 9 := by unfold dgt at h; have := of_decide_eq_true h; omega
      refine Nat.lt_of_lt_of_le a5 ?_
      rw [Nat.pow_succ, Nat.mul_assoc]
      exact Nat.mul_le_mul_left _ (by omega)
    · rw [if_neg h]
      refine ⟨Nat.le_refl _, hi, by omega, fun _ => by simpa using h, ?_⟩
      have : 0 < 10 ^ (k + 1) := Nat.pow_pos (by omega)
      calc v < v + 1 := by omega
        _ ≤ 10 ^ (k + 1) * (v + 1) := Nat.le_mul_of_pos_left _ this
theorem num_gd {t : Nat → Nat} {n i : Nat} (T : TXT t n) (hi : i ≤ n) : i ≤ (pNum t i).2 ∧ (pNum t i).2 ≤ n ∧ ∀ v, (pNum t i).1 = some v → i < (pNum t i).2 ∧ v ≤ 9999 := by
  unfold pNum
  by_cases h : dgt (t i) = true
  · rw [if_pos h]
    obtain ⟨a1, a2, a3, a4, a5⟩ := nb_gd T 4 0 i hi
    refine ⟨a1, a2, fun v hv => ?_⟩
    cases hv
    refine ⟨?_, by rw [show (10 : Nat) ^ 4 * (0 + 1) = 10000 from rfl] at a5; omega⟩
    rcases Nat.lt_or_ge i (nb t 4 0 i).2 with h1 | h1
    · exact h1
    · have e : (nb t 4 0 i).2 = i := by omega
      have := a4 (by omega)
      rw [e, h] at this; cases this
  · rw [if_neg h]
    exact ⟨Nat.le_refl _, hi, fun v hv => by cases hv⟩
theorem cmp_gd {t : Nat → Nat} {n i : Nat} (T : TXT t n) (hi : i ≤ n) : GD n i (pCmp t i) (fun c _ => okC c) := by
  unfold pCmp
  by_cases h : fdc (t i) = true
  · have i1 := T.bin h
    rw [if_pos h]
    by_cases h2 : cmc (t (i + 1)) = true
    · have i2 := T.bin h2
      rw [if_pos h2]
      have key : ∀ b j, b ≤ 1 → i + 2 ≤ j → j ≤ n → GD n i (cmpE (t (i + 1)) (t i) b (pNum t j)) (fun c _ => okC c) := fun b j hb hj hjn => by
        obtain ⟨a1, a2, a3⟩ := num_gd T hjn
        unfold cmpE
        cases hr : (pNum t j).1 with
        | none => exact ⟨by show i ≤ (pNum t j).2; omega, a2, fun c hc => by cases hc⟩
        | some v =>
          obtain ⟨b1, b2⟩ := a3 v hr
          refine ⟨by show i ≤ (pNum t j).2; omega, a2, fun c hc => ?_⟩
          cases hc
          exact ⟨by show i < (pNum t j).2; omega, by show 1 + i ≤ (pNum t j).2; omega, okC_one h2 h b2 hb⟩
      by_cases h3 : t (i + 2) = 45
      · rw [if_pos h3]; exact key 1 (i + 3) (by omega) (by omega) (T.in' h3)
      · rw [if_neg h3]; exact key 0 (i + 2) (by omega) (by omega) (by omega)
    · rw [if_neg h2]; exact ⟨by show i ≤ i + 1; omega, i1, fun c hc => by cases hc⟩
  · rw [if_neg h]; exact ⟨Nat.le_refl _, hi, fun c hc => by cases hc⟩
theorem chn_gd {α : Type} {t : Nat → Nat} {n i0 : Nat} {part : Nat → Option (List α) × Nat} {sg : Nat → Bool} {tk : Nat → α} {fo : Nat → Prop} {ok : List α → Prop} {lim : Prop} (T : TXT t n) (h0 : sg 0 = false)
    (hp : ∀ i, i ≤ n → GD n i (part i) (fun c j => ok c ∧ fo j)) (hok : ∀ a b c, ok a → ok b → sg c = true → ok (a ++ b ++ [tk c])) :
    ∀ k acc i, i0 < i → i ≤ n → ok acc → fo i → acc.length + i0 ≤ i → (lim → 41 - k ≤ i) → GD n i0 (chn t part sg tk k acc i) (fun c j => ok c ∧ fo j ∧ (lim → sg (t j) = false)) := by
  intro k
  induction k with
  | zero =>
    intro acc i hi0 hi ha hf hl hlim
    refine ⟨by show i0 ≤ i; omega, hi, fun c hc => ?_⟩
    cases hc
    exact ⟨hi0, hl, ha, hf, fun hL => by have := hlim hL; have := T.1; omega⟩
  | succ k ih =>
    intro acc i hi0 hi ha hf hl hlim
    unfold chn
    by_cases h : sg (t i) = true
    · have i1 := T.bin h h0
      rw [if_pos h]
      obtain ⟨a1, a2, a3⟩ := hp (i + 1) i1
      cases hr : (part (i + 1)).1 with
      | none => exact ⟨by show i0 ≤ (part (i + 1)).2; omega, a2, fun c hc => by cases hc⟩
      | some c =>
        obtain ⟨b1, b2, b3, b4⟩ := a3 c hr
        exact ih (acc ++ c ++ [tk (t i)]) (part (i + 1)).2 (by omega) a2 (hok _ _ _ ha b3 h) b4 (by rw [List.length_append, List.length_append]; show acc.length + c.length + 1 + i0 ≤ _; omega) (fun hL => by have := hlim hL; omega)
    · rw [if_neg h]
      refine ⟨by show i0 ≤ i; omega, hi, fun c hc => ?_⟩
      cases hc
      exact ⟨hi0, hl, ha, hf, fun _ => by simpa using h⟩
theorem chain_gd {α : Type} {t : Nat → Nat} {n i : Nat} {part : Nat → Option (List α) × Nat} {sg : Nat → Bool} {tk : Nat → α} {fo : Nat → Prop} {ok : List α → Prop} {lim : Prop} {most : Nat} (T : TXT t n) (h0 : sg 0 = false)
    (hp : ∀ i, i ≤ n → GD n i (part i) (fun c j => ok c ∧ fo j)) (hok : ∀ a b c, ok a → ok b → sg c = true → ok (a ++ b ++ [tk c])) (hm : lim → most = 40) (hi : i ≤ n) : GD n i (chain t part sg tk most i) (fun c j => ok c ∧ fo j ∧ (lim → sg (t j) = false)) := by
  obtain ⟨a1, a2, a3⟩ := hp i hi
  unfold chain
  cases hr : (part i).1 with
  | none => exact ⟨a1, a2, fun c hc => by cases hc⟩
  | some c =>
    obtain ⟨b1, b2, b3, b4⟩ := a3 c hr
    exact chn_gd T h0 hp hok most c (part i).2 b1 a2 b3 b4 b2 (fun hL => by have := hm hL; omega)
theorem GD.mono {α : Type} {n i : Nat} {r : Option (List α) × Nat} {ok ok' : List α → Nat → Prop} (h : GD n i r ok) (hh : ∀ c j, ok c j → ok' c j) : GD n i r ok' := ⟨h.1, h.2.1, fun c hc => ⟨(h.2.2 c hc).1, (h.2.2 c hc).2.1, hh _ _ (h.2.2 c hc).2.2⟩⟩
theorem GD.pst {α : Type} {n i : Nat} {r : Option (List α) × Nat} {ok ok' : List α → Nat → Prop} {x : α} (h : GD n (i + 1) r ok) (hh : ∀ c j, ok c j → ok' (c ++ [x]) j) : GD n i (post x r) ok' := by
  obtain ⟨a1, a2, a3⟩ := h
  unfold post
  cases hr : r.1 with
  | none => exact ⟨by show i ≤ r.2; omega, a2, fun c hc => by cases hc⟩
  | some c =>
    obtain ⟨b1, b2, b3⟩ := a3 c hr
    refine ⟨by show i ≤ r.2; omega, a2, fun c' hc => ?_⟩
    cases hc
    exact ⟨by show i < r.2; omega, by rw [List.length_append]; show c.length + 1 + i ≤ r.2; omega, hh _ _ b3⟩
theorem GD.cls {α : Type} {t : Nat → Nat} {n i : Nat} {r : Option (List α) × Nat} {ok ok' : List α → Nat → Prop} (T : TXT t n) (h : GD n (i + 1) r ok) (hh : ∀ c j, ok c j → ok' c (j + 1)) : GD n i (clo t r) ok' := by
  obtain ⟨a1, a2, a3⟩ := h
  unfold clo
  cases hr : r.1 with
  | none => exact ⟨by show i ≤ r.2; omega, a2, fun c hc => by cases hc⟩
  | some c =>
    obtain ⟨b1, b2, b3⟩ := a3 c hr
    dsimp only
    by_cases h41 : t r.2 = 41
    · have := T.in' h41
      rw [if_pos h41]
      refine ⟨by show i ≤ r.2 + 1; omega, this, fun c' hc => ?_⟩
      cases hc
      exact ⟨by show i < r.2 + 1; omega, by show c.length + i ≤ r.2 + 1; omega, hh _ _ b3⟩
    · rw [if_neg h41]
      exact ⟨by show i ≤ r.2; omega, a2, fun c hc => by cases hc⟩
def foC (t : Nat → Nat) (g j : Nat) : Prop := (g ≤ 4 → sgc 4 (t j) = false) ∧ (g ≤ 3 → sgc 3 (t j) = false)
theorem pC_gd {t : Nat → Nat} {n : Nat} (T : TXT t n) : ∀ d g i, (g = 3 ∨ g = 4 ∨ g = 5) → i ≤ n → GD n i (pC t d g i) (fun c j => okC c ∧ foC t g j) := by
  intro d
  induction d with
  | zero => intro g i hg hi; exact ⟨Nat.le_refl _, hi, fun c hc => by cases hc⟩
  | succ d ih =>
    intro g i hg hi
    rcases hg with rfl | rfl | rfl
    · have hp : ∀ i, i ≤ n → GD n i (pC t d 4 i) (fun c j => okC c ∧ sgc 4 (t j) = false) := fun i hi => (ih 4 i (by omega) hi).mono (fun c j h => ⟨h.1, h.2.1 (by omega)⟩)
      exact (chain_gd (lim := True) (fo := fun j => sgc 4 (t j) = false) (sg := sgc 3) (tk := tkC) (most := 40) T rfl hp (fun a b c ha hb hc => okC_bin ha hb (Or.inr (of_decide_eq_true hc)) rfl) (fun _ => rfl) hi).mono (fun c j h => ⟨h.1, fun _ => h.2.1, fun _ => h.2.2 trivial⟩)
    · have hp : ∀ i, i ≤ n → GD n i (pC t d 5 i) (fun c j => okC c ∧ True) := fun i hi => (ih 5 i (by omega) hi).mono (fun c j h => ⟨h.1, trivial⟩)
      exact (chain_gd (lim := True) (fo := fun j => True) (sg := sgc 4) (tk := tkC) (most := 40) T rfl hp (fun a b c ha hb hc => okC_bin ha hb (Or.inl (of_decide_eq_true hc)) rfl) (fun _ => rfl) hi).mono (fun c j h => ⟨h.1, fun _ => h.2.2 trivial, fun h => by omega⟩)
    · show GD n i (if t i = 33 then post (tkC 33) (pC t d 5 (i + 1)) else if t i = 40 then clo t (pC t d 3 (i + 1)) else pCmp t i) _
      by_cases h1 : t i = 33
      · rw [if_pos h1]
        exact GD.pst (ih 5 (i + 1) (by omega) (T.in' h1)) (fun c j h => ⟨okC_not h.1, fun h => by omega, fun h => by omega⟩)
      · rw [if_neg h1]
        by_cases h2 : t i = 40
        · rw [if_pos h2]
          exact GD.cls T (ih 3 (i + 1) (by omega) (T.in' h2)) (fun c j h => ⟨h.1, fun h => by omega, fun h => by omega⟩)
        · rw [if_neg h2]
          exact (cmp_gd T hi).mono (fun c j h => ⟨h, fun h => by omega, fun h => by omega⟩)
theorem ag2_gd {t : Nat → Nat} {n i k f d i0 : Nat} (T : TXT t n) (hi : i ≤ n) (h0 : i0 + 2 ≤ i) (hk : agc k = true) (hf : (k = 110 ∧ f = 0) ∨ (k ≠ 110 ∧ fdc f = true)) : GD n i0 (pAg2 t d k f i) (fun c _ => okQ c) := by
  unfold pAg2
  by_cases h : t i = 58
  · rw [if_pos h]
    obtain ⟨a1, a2, a3⟩ := pC_gd T d 3 (i + 1) (by omega) (T.in' h)
    unfold ag2E
    cases hr : (pC t d 3 (i + 1)).1 with
    | none => exact ⟨by show i0 ≤ (pC t d 3 (i + 1)).2; omega, a2, fun c hc => by cases hc⟩
    | some c =>
      obtain ⟨b1, b2, b3⟩ := a3 c hr
      have hT := T.1
      refine GD.cls (ok := fun c _ => okQ c) T ⟨by show i0 + 1 ≤ (pC t d 3 (i + 1)).2; omega, a2, fun c' hc => ?_⟩ (fun c j h => h)
      cases hc
      exact ⟨by show i0 + 1 < (pC t d 3 (i + 1)).2; omega, by show 1 + (i0 + 1) ≤ (pC t d 3 (i + 1)).2; omega, okQ_agg hk hf (fun x hx => by cases hx; exact ⟨b3.1, by omega⟩)⟩
  · rw [if_neg h]
    refine GD.cls (ok := fun c _ => okQ c) T ⟨by show i0 + 1 ≤ i; omega, hi, fun c' hc => ?_⟩ (fun c j h => h)
    cases hc
    exact ⟨by show i0 + 1 < i; omega, by show 1 + (i0 + 1) ≤ i; omega, okQ_agg hk hf (fun x hx => by cases hx)⟩
theorem ag_gd {t : Nat → Nat} {n i d : Nat} (T : TXT t n) (hk : agc (t i) = true) : GD n i (pAg t d i) (fun c _ => okQ c) := by
  have i1 := T.bin hk
  unfold pAg
  by_cases h : t (i + 1) = 40
  · have i2 := T.in' h
    rw [if_pos h]
    by_cases h2 : t i = 110
    · rw [if_pos h2]; exact ag2_gd T i2 (by omega) hk (Or.inl ⟨h2, rfl⟩)
    · rw [if_neg h2]
      by_cases h3 : fdc (t (i + 2)) = true
      · rw [if_pos h3]; exact ag2_gd T (T.bin h3) (by omega) hk (Or.inr ⟨h2, h3⟩)
      · rw [if_neg h3]; exact ⟨by show i ≤ i + 2; omega, i2, fun c hc => by cases hc⟩
  · rw [if_neg h]; exact ⟨by show i ≤ i + 1; omega, i1, fun c hc => by cases hc⟩
def foQ (t : Nat → Nat) (g j : Nat) : Prop := (g ≤ 2 → sgc 2 (t j) = false) ∧ (g ≤ 1 → sgc 1 (t j) = false)
theorem qop_of {g c : Nat} (h : sgc g c = true) (hg : g ≤ 2) : qop c := by
  rcases (by omega : g = 0 ∨ g = 1 ∨ g = 2) with rfl | rfl | rfl
  · have : c = 60 ∨ c = 62 ∨ c = 61 := of_decide_eq_true h
    unfold qop; omega
  · have : c = 43 ∨ c = 45 := of_decide_eq_true h
    unfold qop; omega
  · have : c = 42 ∨ c = 47 := of_decide_eq_true h
    unfold qop; omega
theorem pQ_gd {t : Nat → Nat} {n : Nat} (T : TXT t n) : ∀ d g i, (g = 0 ∨ g = 1 ∨ g = 2 ∨ g = 6) → i ≤ n → GD n i (pQ t d g i) (fun c j => okQ c ∧ foQ t g j) := by
  intro d
  induction d with
  | zero => intro g i hg hi; exact ⟨Nat.le_refl _, hi, fun c hc => by cases hc⟩
  | succ d ih =>
    intro g i hg hi
    rcases hg with rfl | rfl | rfl | rfl
    · have hp : ∀ i, i ≤ n → GD n i (pQ t d 1 i) (fun c j => okQ c ∧ (sgc 2 (t j) = false ∧ sgc 1 (t j) = false)) := fun i hi => (ih 1 i (by omega) hi).mono (fun c j h => ⟨h.1, h.2.1 (by omega), h.2.2 (by omega)⟩)
      exact (chain_gd (lim := False) (fo := fun j => sgc 2 (t j) = false ∧ sgc 1 (t j) = false) (sg := sgc 0) (tk := tkQ) (most := 1) T rfl hp (fun a b c ha hb hc => okQ_bin ha hb (qop_of hc (by omega)) rfl) (fun h => h.elim) hi).mono (fun c j h => ⟨h.1, fun _ => h.2.1.1, fun _ => h.2.1.2⟩)
    · have hp : ∀ i, i ≤ n → GD n i (pQ t d 2 i) (fun c j => okQ c ∧ sgc 2 (t j) = false) := fun i hi => (ih 2 i (by omega) hi).mono (fun c j h => ⟨h.1, h.2.1 (by omega)⟩)
      exact (chain_gd (lim := True) (fo := fun j => sgc 2 (t j) = false) (sg := sgc 1) (tk := tkQ) (most := 40) T rfl hp (fun a b c ha hb hc => okQ_bin ha hb (qop_of hc (by omega)) rfl) (fun _ => rfl) hi).mono (fun c j h => ⟨h.1, fun _ => h.2.1, fun _ => h.2.2 trivial⟩)
    · have hp : ∀ i, i ≤ n → GD n i (pQ t d 6 i) (fun c j => okQ c ∧ True) := fun i hi => (ih 6 i (by omega) hi).mono (fun c j h => ⟨h.1, trivial⟩)
      exact (chain_gd (lim := True) (fo := fun j => True) (sg := sgc 2) (tk := tkQ) (most := 40) T rfl hp (fun a b c ha hb hc => okQ_bin ha hb (qop_of hc (by omega)) rfl) (fun _ => rfl) hi).mono (fun c j h => ⟨h.1, fun _ => h.2.2 trivial, fun h => by omega⟩)
    · show GD n i (if t i = 45 then post (tkQ 126) (pQ t d 6 (i + 1)) else if t i = 40 then clo t (pQ t d 0 (i + 1)) else if agc (t i) = true then pAg t (d - 1) i else numE (pNum t i)) _
      by_cases h1 : t i = 45
      · rw [if_pos h1]
        exact GD.pst (ih 6 (i + 1) (by omega) (T.in' h1)) (fun c j h => ⟨okQ_neg h.1, fun h => by omega, fun h => by omega⟩)
      · rw [if_neg h1]
        by_cases h2 : t i = 40
        · rw [if_pos h2]
          exact GD.cls T (ih 0 (i + 1) (by omega) (T.in' h2)) (fun c j h => ⟨h.1, fun h => by omega, fun h => by omega⟩)
        · rw [if_neg h2]
          by_cases h3 : agc (t i) = true
          · rw [if_pos h3]
            exact (ag_gd T h3).mono (fun c j h => ⟨h, fun h => by omega, fun h => by omega⟩)
          · rw [if_neg h3]
            obtain ⟨a1, a2, a3⟩ := num_gd T hi
            unfold numE
            cases hr : (pNum t i).1 with
            | none => exact ⟨a1, a2, fun c hc => by cases hc⟩
            | some v =>
              obtain ⟨b1, b2⟩ := a3 v hr
              refine ⟨a1, a2, fun c hc => ?_⟩
              cases hc
              exact ⟨b1, by show 1 + i ≤ (pNum t i).2; omega, okQ_num b2, fun h => by omega, fun h => by omega⟩
