/-! what the class does, purely (out of the rows of the claim whole) -/
/-! the language, purely: a text is t below n; rows of codes, each sign behind its parts -/
abbrev CT : Type := Nat × Nat × Nat × Nat
abbrev QT : Type := Nat × Nat × Option (List CT)
def dgt (c : Nat) : Bool := decide (48 ≤ c ∧ c ≤ 57)
def fdc (c : Nat) : Bool := decide (c = 112 ∨ c = 108 ∨ c = 118 ∨ c = 104)
def cmc (c : Nat) : Bool := decide (c = 60 ∨ c = 62 ∨ c = 61)
def agc (c : Nat) : Bool := decide (c = 100 ∨ c = 109 ∨ c = 110 ∨ c = 115 ∨ c = 116 ∨ c = 120)
def sgc (g c : Nat) : Bool := if g = 0 then cmc c else if g = 1 then decide (c = 43 ∨ c = 45) else if g = 2 then decide (c = 42 ∨ c = 47) else if g = 3 then decide (c = 124) else if g = 4 then decide (c = 38) else false
def tkC (c : Nat) : CT := (c, 0, 0, 0)
def tkQ (c : Nat) : QT := (c, 0, none)
def nb (t : Nat → Nat) : Nat → Nat → Nat → Nat × Nat
  | 0, v, i => (v, i)
  | k + 1, v, i => if dgt (t i) = true then nb t k (10 * v + (t i - 48)) (i + 1) else (v, i)
def pNum (t : Nat → Nat) (i : Nat) : Option Nat × Nat := if dgt (t i) = true then (some (nb t 4 0 i).1, (nb t 4 0 i).2) else (none, i)
def cmpE (sg f b : Nat) (r : Option Nat × Nat) : Option (List CT) × Nat := match r.1 with
  | none => (none, r.2)
  | some v => (some [(sg, f, v, b)], r.2)
def pCmp (t : Nat → Nat) (i : Nat) : Option (List CT) × Nat := if fdc (t i) = true then (if cmc (t (i + 1)) = true then (if t (i + 2) = 45 then cmpE (t (i + 1)) (t i) 1 (pNum t (i + 3)) else cmpE (t (i + 1)) (t i) 0 (pNum t (i + 2))) else (none, i + 1)) else (none, i)
def chn {α : Type} (t : Nat → Nat) (part : Nat → Option (List α) × Nat) (sg : Nat → Bool) (tk : Nat → α) : Nat → List α → Nat → Option (List α) × Nat
  | 0, acc, i => (some acc, i)
  | k + 1, acc, i => if sg (t i) = true then (match (part (i + 1)).1 with
      | none => (none, (part (i + 1)).2)
      | some c => chn t part sg tk k (acc ++ c ++ [tk (t i)]) (part (i + 1)).2) else (some acc, i)
def chain {α : Type} (t : Nat → Nat) (part : Nat → Option (List α) × Nat) (sg : Nat → Bool) (tk : Nat → α) (most i : Nat) : Option (List α) × Nat := match (part i).1 with
  | none => (none, (part i).2)
  | some c => chn t part sg tk most c (part i).2
def clo {α : Type} (t : Nat → Nat) (r : Option (List α) × Nat) : Option (List α) × Nat := match r.1 with
  | none => (none, r.2)
  | some c => if t r.2 = 41 then (some c, r.2 + 1) else (none, r.2)
def post {α : Type} (x : α) (r : Option (List α) × Nat) : Option (List α) × Nat := match r.1 with
  | none => (none, r.2)
  | some c => (some (c ++ [x]), r.2)
def pC (t : Nat → Nat) : Nat → Nat → Nat → Option (List CT) × Nat
  | 0, _, i => (none, i)
  | d + 1, g, i => if g = 3 then chain t (pC t d 4) (sgc 3) tkC 40 i else if g = 4 then chain t (pC t d 5) (sgc 4) tkC 40 i
    else if t i = 33 then post (tkC 33) (pC t d 5 (i + 1)) else if t i = 40 then clo t (pC t d 3 (i + 1)) else pCmp t i
def ag2E (k f : Nat) (t : Nat → Nat) (r : Option (List CT) × Nat) : Option (List QT) × Nat := match r.1 with
  | none => (none, r.2)
  | some c => clo t (some [(k, f, some c)], r.2)
def pAg2 (t : Nat → Nat) (d k f i : Nat) : Option (List QT) × Nat := if t i = 58 then ag2E k f t (pC t d 3 (i + 1)) else clo t (some [(k, f, none)], i)
def pAg (t : Nat → Nat) (d i : Nat) : Option (List QT) × Nat := if t (i + 1) = 40 then (if t i = 110 then pAg2 t d (t i) 0 (i + 2) else if fdc (t (i + 2)) = true then pAg2 t d (t i) (t (i + 2)) (i + 3) else (none, i + 2)) else (none, i + 1)
def numE (r : Option Nat × Nat) : Option (List QT) × Nat := match r.1 with
  | none => (none, r.2)
  | some v => (some [(35, v, none)], r.2)
def pQ (t : Nat → Nat) : Nat → Nat → Nat → Option (List QT) × Nat
  | 0, _, i => (none, i)
  | d + 1, g, i => if g = 0 then chain t (pQ t d 1) (sgc 0) tkQ 1 i else if g = 1 then chain t (pQ t d 2) (sgc 1) tkQ 40 i else if g = 2 then chain t (pQ t d 6) (sgc 2) tkQ 40 i
    else if t i = 45 then post (tkQ 126) (pQ t d 6 (i + 1)) else if t i = 40 then clo t (pQ t d 0 (i + 1)) else if agc (t i) = true then pAg t (d - 1) i else numE (pNum t i)
/-! which rows are right; how high the pile is -/
def dc (x : CT) (d : Nat) : Option Nat := if cmc x.1 = true then some (d + 1) else if x.1 = 33 then (if 1 ≤ d then some d else none) else if 2 ≤ d then some (d - 1) else none
def depC : List CT → Nat → Option Nat
  | [], d => some d
  | x :: c, d => (dc x d).bind (depC c)
def tvC (x : CT) : Prop := (cmc x.1 = true ∧ fdc x.2.1 = true ∧ x.2.2.1 ≤ 9999 ∧ x.2.2.2 ≤ 1) ∨ x = (33, 0, 0, 0) ∨ ((x.1 = 38 ∨ x.1 = 124) ∧ x.2 = (0, 0, 0))
def okC (c : List CT) : Prop := (∀ x ∈ c, tvC x) ∧ ∀ d, depC c d = some (d + 1)
def dq (x : QT) (d : Nat) : Option Nat := if x.1 = 35 ∨ agc x.1 = true then some (d + 1) else if x.1 = 126 then (if 1 ≤ d then some d else none) else if 2 ≤ d then some (d - 1) else none
def depQ : List QT → Nat → Option Nat
  | [], d => some d
  | x :: c, d => (dq x d).bind (depQ c)
def qop (c : Nat) : Prop := c = 42 ∨ c = 43 ∨ c = 45 ∨ c = 47 ∨ c = 60 ∨ c = 61 ∨ c = 62
def tvQ (x : QT) : Prop := (x.1 = 35 ∧ x.2.1 ≤ 9999 ∧ x.2.2 = none) ∨ x = (126, 0, none) ∨ (qop x.1 ∧ x.2 = (0, none)) ∨ (agc x.1 = true ∧ ((x.1 = 110 ∧ x.2.1 = 0) ∨ (x.1 ≠ 110 ∧ fdc x.2.1 = true)) ∧ ∀ c, x.2.2 = some c → okC c ∧ c.length ≤ 40)
def okQ (c : List QT) : Prop := (∀ x ∈ c, tvQ x) ∧ ∀ d, depQ c d = some (d + 1)
theorem depC_app (a b : List CT) : ∀ d, depC (a ++ b) d = (depC a d).bind (depC b) := by
  induction a with
  | nil => intro d; rfl
  | cons x a ih =>
    intro d
    show (dc x d).bind (depC (a ++ b)) = ((dc x d).bind (depC a)).bind (depC b)
    cases dc x d with
    | none => rfl
    | some e => exact ih e
theorem depQ_app (a b : List QT) : ∀ d, depQ (a ++ b) d = (depQ a d).bind (depQ b) := by
  induction a with
  | nil => intro d; rfl
  | cons x a ih =>
    intro d
    show (dq x d).bind (depQ (a ++ b)) = ((dq x d).bind (depQ a)).bind (depQ b)
    cases dq x d with
    | none => rfl
    | some e => exact ih e
theorem okC_bin {a b : List CT} {x : CT} (ha : okC a) (hb : okC b) (hx : x.1 = 38 ∨ x.1 = 124) (h2 : x.2 = (0, 0, 0)) : okC (a ++ b ++ [x]) := by
  refine ⟨fun y hy => ?_, fun d => ?_⟩
  · rcases List.mem_append.mp hy with h | h
    · rcases List.mem_append.mp h with h | h
      · exact ha.1 y h
      · exact hb.1 y h
    · rw [List.mem_singleton.mp h]; exact Or.inr (Or.inr ⟨hx, h2⟩)
  · rw [depC_app, depC_app, ha.2 d, Option.bind_some, hb.2 (d + 1), Option.bind_some]
    show (dc x (d + 1 + 1)).bind (depC []) = _
    have e : dc x (d + 1 + 1) = some (d + 1) := by
      unfold dc
      rcases hx with h | h <;> rw [h, if_neg (by decide), if_neg (by decide), if_pos (by omega)] <;> rfl
    rw [e]; rfl
theorem okC_not {a : List CT} (ha : okC a) : okC (a ++ [tkC 33]) := by
  refine ⟨fun y hy => ?_, fun d => ?_⟩
  · rcases List.mem_append.mp hy with h | h
    · exact ha.1 y h
    · rw [List.mem_singleton.mp h]; exact Or.inr (Or.inl rfl)
  · rw [depC_app, ha.2 d, Option.bind_some]
    show (dc (tkC 33) (d + 1)).bind (depC []) = _
    have e : dc (tkC 33) (d + 1) = some (d + 1) := by
      unfold dc tkC
      rw [if_neg (by decide), if_pos rfl, if_pos (by omega)]
    rw [e]; rfl
theorem okC_one {x : CT} (h1 : cmc x.1 = true) (h2 : fdc x.2.1 = true) (h3 : x.2.2.1 ≤ 9999) (h4 : x.2.2.2 ≤ 1) : okC [x] := by
  refine ⟨fun y hy => ?_, fun d => ?_⟩
  · rw [List.mem_singleton.mp hy]; exact Or.inl ⟨h1, h2, h3, h4⟩
  · show (dc x d).bind (depC []) = _
    unfold dc
    rw [if_pos h1]; rfl
theorem okQ_bin {a b : List QT} {x : QT} (ha : okQ a) (hb : okQ b) (hx : qop x.1) (h2 : x.2 = (0, none)) : okQ (a ++ b ++ [x]) := by
  refine ⟨fun y hy => ?_, fun d => ?_⟩
  · rcases List.mem_append.mp hy with h | h
    · rcases List.mem_append.mp h with h | h
      · exact ha.1 y h
      · exact hb.1 y h
    · rw [List.mem_singleton.mp h]; exact Or.inr (Or.inr (Or.inl ⟨hx, h2⟩))
  · rw [depQ_app, depQ_app, ha.2 d, Option.bind_some, hb.2 (d + 1), Option.bind_some]
    show (dq x (d + 1 + 1)).bind (depQ []) = _
    have e : dq x (d + 1 + 1) = some (d + 1) := by
      unfold dq
      rcases hx with h | h | h | h | h | h | h <;> rw [h, if_neg (by decide), if_neg (by decide), if_pos (by omega)] <;> rfl
    rw [e]; rfl
theorem okQ_neg {a : List QT} (ha : okQ a) : okQ (a ++ [tkQ 126]) := by
  refine ⟨fun y hy => ?_, fun d => ?_⟩
  · rcases List.mem_append.mp hy with h | h
    · exact ha.1 y h
    · rw [List.mem_singleton.mp h]; exact Or.inr (Or.inl rfl)
  · rw [depQ_app, ha.2 d, Option.bind_some]
    show (dq (tkQ 126) (d + 1)).bind (depQ []) = _
    have e : dq (tkQ 126) (d + 1) = some (d + 1) := by
      unfold dq tkQ
      rw [if_neg (by decide), if_pos rfl, if_pos (by omega)]
    rw [e]; rfl
theorem okQ_num {v : Nat} (h : v ≤ 9999) : okQ [(35, v, none)] := by
  refine ⟨fun y hy => ?_, fun d => ?_⟩
  · rw [List.mem_singleton.mp hy]; exact Or.inl ⟨rfl, h, rfl⟩
  · show (dq (35, v, none) d).bind (depQ []) = _
    unfold dq
    rw [if_pos (Or.inl rfl)]; rfl
theorem okQ_agg {k f : Nat} {c : Option (List CT)} (h1 : agc k = true) (h2 : (k = 110 ∧ f = 0) ∨ (k ≠ 110 ∧ fdc f = true)) (h3 : ∀ x, c = some x → okC x ∧ x.length ≤ 40) : okQ [(k, f, c)] := by
  refine ⟨fun y hy => ?_, fun d => ?_⟩
  · rw [List.mem_singleton.mp hy]; exact Or.inr (Or.inr (Or.inr ⟨h1, h2, h3⟩))
  · show (dq (k, f, c) d).bind (depQ []) = _
    unfold dq
    rw [if_pos (Or.inr h1)]; rfl
/-! where the reading of a part ends -/
def TXT (t : Nat → Nat) (n : Nat) : Prop := n ≤ 40 ∧ (∀ k, k < n → 32 ≤ t k ∧ t k ≤ 126) ∧ ∀ k, n ≤ k → t k = 0
theorem TXT.in {t : Nat → Nat} {n k : Nat} (T : TXT t n) (h : t k ≠ 0) : k < n := by
  rcases Nat.lt_or_ge k n with h1 | h1
  · exact h1
  · exact absurd (T.2.2 k h1) h
theorem TXT.in' {t : Nat → Nat} {n k c : Nat} (T : TXT t n) (h : t k = c) (hc : c ≠ 0 := by decide) : k < n := T.in (by rw [h]; exact hc)
theorem TXT.bin {t : Nat → Nat} {n k : Nat} (T : TXT t n) {f : Nat → Bool} (h : f (t k) = true) (h0 : f 0 = false := by decide) : k < n := T.in (fun e => by rw [e, h0] at h; cases h)
/-- the result of a part read from i: where it ends, and what is right of its row -/
def GD {α : Type} (n i : Nat) (r : Option (List α) × Nat) (ok : List α → Nat → Prop) : Prop := i ≤ r.2 ∧ r.2 ≤ n ∧ ∀ c, r.1 = some c → i < r.2 ∧ c.length + i ≤ r.2 ∧ ok c r.2
theorem nb_gd {t : Nat → Nat} {n : Nat} (T : TXT t n) : ∀ k v i, i ≤ n → i ≤ (nb t k v i).2 ∧ (nb t k v i).2 ≤ n ∧ (nb t k v i).2 ≤ i + k ∧ ((nb t k v i).2 < i + k → dgt (t (nb t k v i).2) = false) ∧ (nb t k v i).1 < 10 ^ k * (v + 1) := by
  intro k
  induction k with
  | zero => intro v i hi; exact ⟨Nat.le_refl _, hi, Nat.le_refl _, fun h => absurd h (Nat.lt_irrefl _), by show v < 1 * (v + 1); omega⟩
  | succ k ih =>
    intro v i hi
    unfold nb
    by_cases h : dgt (t i) = true
    · rw [if_pos h]
      have hin := T.bin h
      obtain ⟨a1, a2, a3, a4, a5⟩ := ih (10 * v + (t i - 48)) (i + 1) hin
      refine ⟨by omega, a2, by omega, fun h2 => a4 (by omega), ?_⟩
      have h9 : t i - 48 ≤ 9 := by unfold dgt at h; have := of_decide_eq_true h; omega
      refine Nat.lt_of_lt_of_le a5 ?_
      rw [Nat.pow_succ, Nat.mul_assoc]
      exact Nat.mul_le_mul_left _ (by omega)
    · rw [if_neg h]
      refine ⟨Nat.le_refl _, hi, by omega, fun _ => by simpa using h, ?_⟩
      have : 0 < 10 ^ (k + 1) := Nat.pow_pos (by omega)
      calc v < v + 1 := by omega
        _ ≤ 10 ^ (k + 1) * (v + 1) := Nat.le_mul_of_pos_left _ this
theorem num_gd {t : Nat → Nat} {n i : Nat} (T : TXT t n) (hi : i ≤ n) : i ≤ (pNum t i).2 ∧ (pNum t i).2 ≤ n ∧ ∀ v, (pNum t i).1 = some v → i < (pNum t i).2 ∧ v ≤ 9999 := by
  unfold pNum
  by_cases h : dgt (t i) = true
  · rw [if_pos h]
    obtain ⟨a1, a2, a3, a4, a5⟩ := nb_gd T 4 0 i hi
    refine ⟨a1, a2, fun v hv => ?_⟩
    cases hv
    refine ⟨?_, by rw [show (10 : Nat) ^ 4 * (0 + 1) = 10000 from rfl] at a5; omega⟩
    rcases Nat.lt_or_ge i (nb t 4 0 i).2 with h1 | h1
    · exact h1
    · have e : (nb t 4 0 i).2 = i := by omega
      have := a4 (by omega)
      rw [e, h] at this; cases this
  · rw [if_neg h]
    exact ⟨Nat.le_refl _, hi, fun v hv => by cases hv⟩
theorem cmp_gd {t : Nat → Nat} {n i : Nat} (T : TXT t n) (hi : i ≤ n) : GD n i (pCmp t i) (fun c _ => okC c) := by
  unfold pCmp
  by_cases h : fdc (t i) = true
  · have i1 := T.bin h
    rw [if_pos h]
    by_cases h2 : cmc (t (i + 1)) = true
    · have i2 := T.bin h2
      rw [if_pos h2]
      have key : ∀ b j, b ≤ 1 → i + 2 ≤ j → j ≤ n → GD n i (cmpE (t (i + 1)) (t i) b (pNum t j)) (fun c _ => okC c) := fun b j hb hj hjn => by
        obtain ⟨a1, a2, a3⟩ := num_gd T hjn
        unfold cmpE
        cases hr : (pNum t j).1 with
        | none => exact ⟨by show i ≤ (pNum t j).2; omega, a2, fun c hc => by cases hc⟩
        | some v =>
          obtain ⟨b1, b2⟩ := a3 v hr
          refine ⟨by show i ≤ (pNum t j).2; omega, a2, fun c hc => ?_⟩
          cases hc
          exact ⟨by show i < (pNum t j).2; omega, by show 1 + i ≤ (pNum t j).2; omega, okC_one h2 h b2 hb⟩
      by_cases h3 : t (i + 2) = 45
      · rw [if_pos h3]; exact key 1 (i + 3) (by omega) (by omega) (T.in' h3)
      · rw [if_neg h3]; exact key 0 (i + 2) (by omega) (by omega) (by omega)
    · rw [if_neg h2]; exact ⟨by show i ≤ i + 1; omega, i1, fun c hc => by cases hc⟩
  · rw [if_neg h]; exact ⟨Nat.le_refl _, hi, fun c hc => by cases hc⟩
theorem chn_gd {α : Type} {t : Nat → Nat} {n i0 : Nat} {part : Nat → Option (List α) × Nat} {sg : Nat → Bool} {tk : Nat → α} {fo : Nat → Prop} {ok : List α → Prop} {lim : Prop} (T : TXT t n) (h0 : sg 0 = false)
    (hp : ∀ i, i ≤ n → GD n i (part i) (fun c j => ok c ∧ fo j)) (hok : ∀ a b c, ok a → ok b → sg c = true → ok (a ++ b ++ [tk c])) :
    ∀ k acc i, i0 < i → i ≤ n → ok acc → fo i → acc.length + i0 ≤ i → (lim → 41 - k ≤ i) → GD n i0 (chn t part sg tk k acc i) (fun c j => ok c ∧ fo j ∧ (lim → sg (t j) = false)) := by
  intro k
  induction k with
  | zero =>
    intro acc i hi0 hi ha hf hl hlim
    refine ⟨by show i0 ≤ i; omega, hi, fun c hc => ?_⟩
    cases hc
    exact ⟨hi0, hl, ha, hf, fun hL => by have := hlim hL; have := T.1; omega⟩
  | succ k ih =>
    intro acc i hi0 hi ha hf hl hlim
    unfold chn
    by_cases h : sg (t i) = true
    · have i1 := T.bin h h0
      rw [if_pos h]
      obtain ⟨a1, a2, a3⟩ := hp (i + 1) i1
      cases hr : (part (i + 1)).1 with
      | none => exact ⟨by show i0 ≤ (part (i + 1)).2; omega, a2, fun c hc => by cases hc⟩
      | some c =>
        obtain ⟨b1, b2, b3, b4⟩ := a3 c hr
        exact ih (acc ++ c ++ [tk (t i)]) (part (i + 1)).2 (by omega) a2 (hok _ _ _ ha b3 h) b4 (by rw [List.length_append, List.length_append]; show acc.length + c.length + 1 + i0 ≤ _; omega) (fun hL => by have := hlim hL; omega)
    · rw [if_neg h]
      refine ⟨by show i0 ≤ i; omega, hi, fun c hc => ?_⟩
      cases hc
      exact ⟨hi0, hl, ha, hf, fun _ => by simpa using h⟩
theorem chain_gd {α : Type} {t : Nat → Nat} {n i : Nat} {part : Nat → Option (List α) × Nat} {sg : Nat → Bool} {tk : Nat → α} {fo : Nat → Prop} {ok : List α → Prop} {lim : Prop} {most : Nat} (T : TXT t n) (h0 : sg 0 = false)
    (hp : ∀ i, i ≤ n → GD n i (part i) (fun c j => ok c ∧ fo j)) (hok : ∀ a b c, ok a → ok b → sg c = true → ok (a ++ b ++ [tk c])) (hm : lim → most = 40) (hi : i ≤ n) : GD n i (chain t part sg tk most i) (fun c j => ok c ∧ fo j ∧ (lim → sg (t j) = false)) := by
  obtain ⟨a1, a2, a3⟩ := hp i hi
  unfold chain
  cases hr : (part i).1 with
  | none => exact ⟨a1, a2, fun c hc => by cases hc⟩
  | some c =>
    obtain ⟨b1, b2, b3, b4⟩ := a3 c hr
    exact chn_gd T h0 hp hok most c (part i).2 b1 a2 b3 b4 b2 (fun hL => by have := hm hL; omega)
theorem GD.mono {α : Type} {n i : Nat} {r : Option (List α) × Nat} {ok ok' : List α → Nat → Prop} (h : GD n i r ok) (hh : ∀ c j, ok c j → ok' c j) : GD n i r ok' := ⟨h.1, h.2.1, fun c hc => ⟨(h.2.2 c hc).1, (h.2.2 c hc).2.1, hh _ _ (h.2.2 c hc).2.2⟩⟩
theorem GD.pst {α : Type} {n i : Nat} {r : Option (List α) × Nat} {ok ok' : List α → Nat → Prop} {x : α} (h : GD n (i + 1) r ok) (hh : ∀ c j, ok c j → ok' (c ++ [x]) j) : GD n i (post x r) ok' := by
  obtain ⟨a1, a2, a3⟩ := h
  unfold post
  cases hr : r.1 with
  | none => exact ⟨by show i ≤ r.2; omega, a2, fun c hc => by cases hc⟩
  | some c =>
    obtain ⟨b1, b2, b3⟩ := a3 c hr
    refine ⟨by show i ≤ r.2; omega, a2, fun c' hc => ?_⟩
    cases hc
    exact ⟨by show i < r.2; omega, by rw [List.length_append]; show c.length + 1 + i ≤ r.2; omega, hh _ _ b3⟩
theorem GD.cls {α : Type} {t : Nat → Nat} {n i : Nat} {r : Option (List α) × Nat} {ok ok' : List α → Nat → Prop} (T : TXT t n) (h : GD n (i + 1) r ok) (hh : ∀ c j, ok c j → ok' c (j + 1)) : GD n i (clo t r) ok' := by
  obtain ⟨a1, a2, a3⟩ := h
  unfold clo
  cases hr : r.1 with
  | none => exact ⟨by show i ≤ r.2; omega, a2, fun c hc => by cases hc⟩
  | some c =>
    obtain ⟨b1, b2, b3⟩ := a3 c hr
    dsimp only
    by_cases h41 : t r.2 = 41
    · have := T.in' h41
      rw [if_pos h41]
      refine ⟨by show i ≤ r.2 + 1; omega, this, fun c' hc => ?_⟩
      cases hc
      exact ⟨by show i < r.2 + 1; omega, by show c.length + i ≤ r.2 + 1; omega, hh _ _ b3⟩
    · rw [if_neg h41]
      exact ⟨by show i ≤ r.2; omega, a2, fun c hc => by cases hc⟩
def foC (t : Nat → Nat) (g j : Nat) : Prop := (g ≤ 4 → sgc 4 (t j) = false) ∧ (g ≤ 3 → sgc 3 (t j) = false)
theorem pC_gd {t : Nat → Nat} {n : Nat} (T : TXT t n) : ∀ d g i, (g = 3 ∨ g = 4 ∨ g = 5) → i ≤ n → GD n i (pC t d g i) (fun c j => okC c ∧ foC t g j) := by
  intro d
  induction d with
  | zero => intro g i hg hi; exact ⟨Nat.le_refl _, hi, fun c hc => by cases hc⟩
  | succ d ih =>
    intro g i hg hi
    rcases hg with rfl | rfl | rfl
    · have hp : ∀ i, i ≤ n → GD n i (pC t d 4 i) (fun c j => okC c ∧ sgc 4 (t j) = false) := fun i hi => (ih 4 i (by omega) hi).mono (fun c j h => ⟨h.1, h.2.1 (by omega)⟩)
      exact (chain_gd (lim := True) (fo := fun j => sgc 4 (t j) = false) (sg := sgc 3) (tk := tkC) (most := 40) T rfl hp (fun a b c ha hb hc => okC_bin ha hb (Or.inr (of_decide_eq_true hc)) rfl) (fun _ => rfl) hi).mono (fun c j h => ⟨h.1, fun _ => h.2.1, fun _ => h.2.2 trivial⟩)
    · have hp : ∀ i, i ≤ n → GD n i (pC t d 5 i) (fun c j => okC c ∧ True) := fun i hi => (ih 5 i (by omega) hi).mono (fun c j h => ⟨h.1, trivial⟩)
      exact (chain_gd (lim := True) (fo := fun j => True) (sg := sgc 4) (tk := tkC) (most := 40) T rfl hp (fun a b c ha hb hc => okC_bin ha hb (Or.inl (of_decide_eq_true hc)) rfl) (fun _ => rfl) hi).mono (fun c j h => ⟨h.1, fun _ => h.2.2 trivial, fun h => by omega⟩)
    · show GD n i (if t i = 33 then post (tkC 33) (pC t d 5 (i + 1)) else if t i = 40 then clo t (pC t d 3 (i + 1)) else pCmp t i) _
      by_cases h1 : t i = 33
      · rw [if_pos h1]
        exact GD.pst (ih 5 (i + 1) (by omega) (T.in' h1)) (fun c j h => ⟨okC_not h.1, fun h => by omega, fun h => by omega⟩)
      · rw [if_neg h1]
        by_cases h2 : t i = 40
        · rw [if_pos h2]
          exact GD.cls T (ih 3 (i + 1) (by omega) (T.in' h2)) (fun c j h => ⟨h.1, fun h => by omega, fun h => by omega⟩)
        · rw [if_neg h2]
          exact (cmp_gd T hi).mono (fun c j h => ⟨h, fun h => by omega, fun h => by omega⟩)
theorem ag2_gd {t : Nat → Nat} {n i k f d i0 : Nat} (T : TXT t n) (hi : i ≤ n) (h0 : i0 + 2 ≤ i) (hk : agc k = true) (hf : (k = 110 ∧ f = 0) ∨ (k ≠ 110 ∧ fdc f = true)) : GD n i0 (pAg2 t d k f i) (fun c _ => okQ c) := by
  unfold pAg2
  by_cases h : t i = 58
  · rw [if_pos h]
    obtain ⟨a1, a2, a3⟩ := pC_gd T d 3 (i + 1) (by omega) (T.in' h)
    unfold ag2E
    cases hr : (pC t d 3 (i + 1)).1 with
    | none => exact ⟨by show i0 ≤ (pC t d 3 (i + 1)).2; omega, a2, fun c hc => by cases hc⟩
    | some c =>
      obtain ⟨b1, b2, b3⟩ := a3 c hr
      have hT := T.1
      refine GD.cls (ok := fun c _ => okQ c) T ⟨by show i0 + 1 ≤ (pC t d 3 (i + 1)).2; omega, a2, fun c' hc => ?_⟩ (fun c j h => h)
      cases hc
      exact ⟨by show i0 + 1 < (pC t d 3 (i + 1)).2; omega, by show 1 + (i0 + 1) ≤ (pC t d 3 (i + 1)).2; omega, okQ_agg hk hf (fun x hx => by cases hx; exact ⟨b3.1, by omega⟩)⟩
  · rw [if_neg h]
    refine GD.cls (ok := fun c _ => okQ c) T ⟨by show i0 + 1 ≤ i; omega, hi, fun c' hc => ?_⟩ (fun c j h => h)
    cases hc
    exact ⟨by show i0 + 1 < i; omega, by show 1 + (i0 + 1) ≤ i; omega, okQ_agg hk hf (fun x hx => by cases hx)⟩
theorem ag_gd {t : Nat → Nat} {n i d : Nat} (T : TXT t n) (hk : agc (t i) = true) : GD n i (pAg t d i) (fun c _ => okQ c) := by
  have i1 := T.bin hk
  unfold pAg
  by_cases h : t (i + 1) = 40
  · have i2 := T.in' h
    rw [if_pos h]
    by_cases h2 : t i = 110
    · rw [if_pos h2]; exact ag2_gd T i2 (by omega) hk (Or.inl ⟨h2, rfl⟩)
    · rw [if_neg h2]
      by_cases h3 : fdc (t (i + 2)) = true
      · rw [if_pos h3]; exact ag2_gd T (T.bin h3) (by omega) hk (Or.inr ⟨h2, h3⟩)
      · rw [if_neg h3]; exact ⟨by show i ≤ i + 2; omega, i2, fun c hc => by cases hc⟩
  · rw [if_neg h]; exact ⟨by show i ≤ i + 1; omega, i1, fun c hc => by cases hc⟩
def foQ (t : Nat → Nat) (g j : Nat) : Prop := (g ≤ 2 → sgc 2 (t j) = false) ∧ (g ≤ 1 → sgc 1 (t j) = false)
theorem qop_of {g c : Nat} (h : sgc g c = true) (hg : g ≤ 2) : qop c := by
  rcases (by omega : g = 0 ∨ g = 1 ∨ g = 2) with rfl | rfl | rfl
  · have : c = 60 ∨ c = 62 ∨ c = 61 := of_decide_eq_true h
    unfold qop; omega
  · have : c = 43 ∨ c = 45 := of_decide_eq_true h
    unfold qop; omega
  · have : c = 42 ∨ c = 47 := of_decide_eq_true h
    unfold qop; omega
theorem pQ_gd {t : Nat → Nat} {n : Nat} (T : TXT t n) : ∀ d g i, (g = 0 ∨ g = 1 ∨ g = 2 ∨ g = 6) → i ≤ n → GD n i (pQ t d g i) (fun c j => okQ c ∧ foQ t g j) := by
  intro d
  induction d with
  | zero => intro g i hg hi; exact ⟨Nat.le_refl _, hi, fun c hc => by cases hc⟩
  | succ d ih =>
    intro g i hg hi
    rcases hg with rfl | rfl | rfl | rfl
    · have hp : ∀ i, i ≤ n → GD n i (pQ t d 1 i) (fun c j => okQ c ∧ (sgc 2 (t j) = false ∧ sgc 1 (t j) = false)) := fun i hi => (ih 1 i (by omega) hi).mono (fun c j h => ⟨h.1, h.2.1 (by omega), h.2.2 (by omega)⟩)
      exact (chain_gd (lim := False) (fo := fun j => sgc 2 (t j) = false ∧ sgc 1 (t j) = false) (sg := sgc 0) (tk := tkQ) (most := 1) T rfl hp (fun a b c ha hb hc => okQ_bin ha hb (qop_of hc (by omega)) rfl) (fun h => h.elim) hi).mono (fun c j h => ⟨h.1, fun _ => h.2.1.1, fun _ => h.2.1.2⟩)
    · have hp : ∀ i, i ≤ n → GD n i (pQ t d 2 i) (fun c j => okQ c ∧ sgc 2 (t j) = false) := fun i hi => (ih 2 i (by omega) hi).mono (fun c j h => ⟨h.1, h.2.1 (by omega)⟩)
      exact (chain_gd (lim := True) (fo := fun j => sgc 2 (t j) = false) (sg := sgc 1) (tk := tkQ) (most := 40) T rfl hp (fun a b c ha hb hc => okQ_bin ha hb (qop_of hc (by omega)) rfl) (fun _ => rfl) hi).mono (fun c j h => ⟨h.1, fun _ => h.2.1, fun _ => h.2.2 trivial⟩)
    · have hp : ∀ i, i ≤ n → GD n i (pQ t d 6 i) (fun c j => okQ c ∧ True) := fun i hi => (ih 6 i (by omega) hi).mono (fun c j h => ⟨h.1, trivial⟩)
      exact (chain_gd (lim := True) (fo := fun j => True) (sg := sgc 2) (tk := tkQ) (most := 40) T rfl hp (fun a b c ha hb hc => okQ_bin ha hb (qop_of hc (by omega)) rfl) (fun _ => rfl) hi).mono (fun c j h => ⟨h.1, fun _ => h.2.2 trivial, fun h => by omega⟩)
    · show GD n i (if t i = 45 then post (tkQ 126) (pQ t d 6 (i + 1)) else if t i = 40 then clo t (pQ t d 0 (i + 1)) else if agc (t i) = true then pAg t (d - 1) i else numE (pNum t i)) _
      by_cases h1 : t i = 45
      · rw [if_pos h1]
        exact GD.pst (ih 6 (i + 1) (by omega) (T.in' h1)) (fun c j h => ⟨okQ_neg h.1, fun h => by omega, fun h => by omega⟩)
      · rw [if_neg h1]
        by_cases h2 : t i = 40
        · rw [if_pos h2]
          exact GD.cls T (ih 0 (i + 1) (by omega) (T.in' h2)) (fun c j h => ⟨h.1, fun h => by omega, fun h => by omega⟩)
        · rw [if_neg h2]
          by_cases h3 : agc (t i) = true
          · rw [if_pos h3]
            exact (ag_gd T h3).mono (fun c j h => ⟨h, fun h => by omega, fun h => by omega⟩)
          · rw [if_neg h3]
            obtain ⟨a1, a2, a3⟩ := num_gd T hi
            unfold numE
            cases hr : (pNum t i).1 with
            | none => exact ⟨a1, a2, fun c hc => by cases hc⟩
            | some v =>
              obtain ⟨b1, b2⟩ := a3 v hr
              refine ⟨a1, a2, fun c hc => ?_⟩
              cases hc
              exact ⟨b1, by show 1 + i ≤ (pNum t i).2; omega, okQ_num b2, fun h => by omega, fun h => by omega⟩

/-! what a reading leaves: nodes in the heap -/
def NM (s s' : St) : Prop := sz s ≤ sz s' ∧ ∀ q o, q < sz s → gD s q = some (.inl (3, o)) → gD s' q = some (.inl (3, o))
theorem NM.rf {s : St} : NM s s := ⟨Nat.le_refl _, fun _ _ _ h => h⟩
theorem NM.trans {s s1 s2 : St} (h : NM s s1) (h2 : NM s1 s2) : NM s s2 := ⟨Nat.le_trans h.1 h2.1, fun q o hq hd => h2.2 q o (Nat.lt_of_lt_of_le hq h.1) (h.2 q o hq hd)⟩
def nd (s : St) (q : Nat) (k n : Int32) (l r : Option Nat) : Prop := q < sz s ∧ ∃ o, gD s q = some (.inl (3, o)) ∧ o.1 0 = k ∧ o.1 1 = n ∧ o.2.1 2 = l ∧ o.2.1 3 = r
theorem nd.nm {s s' : St} {q : Nat} {k n : Int32} {l r : Option Nat} (h : nd s q k n l r) (f : NM s s') : nd s' q k n l r := by
  obtain ⟨h1, o, h2, h3⟩ := h
  exact ⟨Nat.lt_of_lt_of_le h1 f.1, o, f.2 q o h1 h2, h3⟩
def TC (s : St) : Nat → Nat → List CT → Prop
  | 0, _, _ => False
  | d + 1, q, c => (∃ sg f v b l r, c = [(sg, f, v, b)] ∧ 2 ≤ d ∧ cmc sg = true ∧ fdc f = true ∧ v ≤ 9999 ∧ nd s q (io sg) (io 0) (some l) (some r) ∧ nd s l (io f) (io 0) none none ∧ ((b = 0 ∧ nd s r (io 35) (io v) none none) ∨ (b = 1 ∧ ∃ r2, nd s r (io 126) (io 0) (some r2) none ∧ nd s r2 (io 35) (io v) none none)))
    ∨ (∃ l c1, c = c1 ++ [tkC 33] ∧ nd s q (io 33) (io 0) (some l) none ∧ TC s d l c1)
    ∨ (∃ sg l r c1 c2, (sg = 38 ∨ sg = 124) ∧ c = c1 ++ c2 ++ [tkC sg] ∧ nd s q (io sg) (io 0) (some l) (some r) ∧ TC s d l c1 ∧ TC s d r c2)
def TQ (s : St) : Nat → Nat → List QT → Prop
  | 0, _, _ => False
  | d + 1, q, c => (∃ v, c = [(35, v, none)] ∧ v ≤ 9999 ∧ nd s q (io 35) (io v) none none)
    ∨ (∃ l c1, c = c1 ++ [tkQ 126] ∧ nd s q (io 126) (io 0) (some l) none ∧ TQ s d l c1)
    ∨ (∃ sg l r c1 c2, qop sg ∧ c = c1 ++ c2 ++ [tkQ sg] ∧ nd s q (io sg) (io 0) (some l) (some r) ∧ TQ s d l c1 ∧ TQ s d r c2)
    ∨ (∃ k f ch l r, c = [(k, f, ch)] ∧ agc k = true ∧ nd s q (io k) (io 0) l r ∧ ((k = 110 ∧ f = 0 ∧ l = none) ∨ (k ≠ 110 ∧ fdc f = true ∧ ∃ l', l = some l' ∧ nd s l' (io f) (io 0) none none)) ∧ ((ch = none ∧ r = none) ∨ (∃ cc r', ch = some cc ∧ r = some r' ∧ TC s d r' cc)))
theorem TC.nm {s s' : St} (f : NM s s') : ∀ d q c, TC s d q c → TC s' d q c := by
  intro d
  induction d with
  | zero => intro q c h; exact h
  | succ d ih =>
    intro q c h
    rcases h with ⟨sg, fi, v, b, l, r, h1, h2, h3, h4, h5, h6, h7, h8⟩ | ⟨l, c1, h1, h2, h3⟩ | ⟨sg, l, r, c1, c2, h1, h2, h3, h4, h5⟩
    · exact Or.inl ⟨sg, fi, v, b, l, r, h1, h2, h3, h4, h5, h6.nm f, h7.nm f, h8.imp (fun h => ⟨h.1, h.2.nm f⟩) (fun ⟨hb, r2, ha, hc⟩ => ⟨hb, r2, ha.nm f, hc.nm f⟩)⟩
    · exact Or.inr (Or.inl ⟨l, c1, h1, h2.nm f, ih _ _ h3⟩)
    · exact Or.inr (Or.inr ⟨sg, l, r, c1, c2, h1, h2, h3.nm f, ih _ _ h4, ih _ _ h5⟩)
theorem TQ.nm {s s' : St} (f : NM s s') : ∀ d q c, TQ s d q c → TQ s' d q c := by
  intro d
  induction d with
  | zero => intro q c h; exact h
  | succ d ih =>
    intro q c h
    rcases h with ⟨v, h1, h2, h3⟩ | ⟨l, c1, h1, h2, h3⟩ | ⟨sg, l, r, c1, c2, h1, h2, h3, h4, h5⟩ | ⟨k, fi, ch, l, r, h1, h2, h3, h4, h5⟩
    · exact Or.inl ⟨v, h1, h2, h3.nm f⟩
    · exact Or.inr (Or.inl ⟨l, c1, h1, h2.nm f, ih _ _ h3⟩)
    · exact Or.inr (Or.inr (Or.inl ⟨sg, l, r, c1, c2, h1, h2, h3.nm f, ih _ _ h4, ih _ _ h5⟩))
    · exact Or.inr (Or.inr (Or.inr ⟨k, fi, ch, l, r, h1, h2, h3.nm f, h4.imp id (fun ⟨ha, hb, l', hc, hd⟩ => ⟨ha, hb, l', hc, hd.nm f⟩), h5.imp id (fun ⟨cc, r', ha, hb, hc⟩ => ⟨cc, r', ha, hb, TC.nm f _ _ _ hc⟩)⟩))
theorem TC.up {s : St} : ∀ d q c, TC s d q c → TC s (d + 1) q c := by
  intro d
  induction d with
  | zero => intro q c h; exact h.elim
  | succ d ih =>
    intro q c h
    rcases h with ⟨sg, fi, v, b, l, r, h1, h2, h3⟩ | ⟨l, c1, h1, h2, h3⟩ | ⟨sg, l, r, c1, c2, h1, h2, h3, h4, h5⟩
    · exact Or.inl ⟨sg, fi, v, b, l, r, h1, by omega, h3⟩
    · exact Or.inr (Or.inl ⟨l, c1, h1, h2, ih _ _ h3⟩)
    · exact Or.inr (Or.inr ⟨sg, l, r, c1, c2, h1, h2, h3, ih _ _ h4, ih _ _ h5⟩)
theorem TC.le {s : St} {d d' q : Nat} {c : List CT} (h : TC s d q c) (hd : d ≤ d') : TC s d' q c := by
  induction hd with
  | refl => exact h
  | step _ ih => exact TC.up _ _ _ ih
theorem TQ.up {s : St} : ∀ d q c, TQ s d q c → TQ s (d + 1) q c := by
  intro d
  induction d with
  | zero => intro q c h; exact h.elim
  | succ d ih =>
    intro q c h
    rcases h with h1 | ⟨l, c1, h1, h2, h3⟩ | ⟨sg, l, r, c1, c2, h1, h2, h3, h4, h5⟩ | ⟨k, fi, ch, l, r, h1, h2, h3, h4, h5⟩
    · exact Or.inl h1
    · exact Or.inr (Or.inl ⟨l, c1, h1, h2, ih _ _ h3⟩)
    · exact Or.inr (Or.inr (Or.inl ⟨sg, l, r, c1, c2, h1, h2, h3, ih _ _ h4, ih _ _ h5⟩))
    · exact Or.inr (Or.inr (Or.inr ⟨k, fi, ch, l, r, h1, h2, h3, h4, h5.imp id (fun ⟨cc, r', ha, hb, hc⟩ => ⟨cc, r', ha, hb, TC.up _ _ _ hc⟩)⟩))
theorem TQ.le {s : St} {d d' q : Nat} {c : List QT} (h : TQ s d q c) (hd : d ≤ d') : TQ s d' q c := by
  induction hd with
  | refl => exact h
  | step _ ih => exact TQ.up _ _ _ ih
/-! the reader's world -/
def RI (t : Nat → Nat) (n : Nat) (s : St) (i : Nat) : Prop := gI s 1538 = io i ∧ gI s 1537 = io n ∧ gR s 1536 = some 1 ∧ ∀ k, k < n → gA s 1 k = io (t k)
def FnR (s s' : St) : Prop := (∀ k, k ≠ 1538 → gI s' k = gI s k) ∧ gA s' = gA s ∧ gL s' = gL s ∧ gJ s' = gJ s ∧ gQ s' = gQ s ∧ gR s' = gR s ∧ sz s ≤ sz s' ∧ ∀ q, q < sz s → gD s' q = gD s q
theorem FnR.rf {s : St} : FnR s s := ⟨fun _ _ => rfl, rfl, rfl, rfl, rfl, rfl, Nat.le_refl _, fun _ _ => rfl⟩
theorem FnR.trans {s s1 s2 : St} (h : FnR s s1) (h2 : FnR s1 s2) : FnR s s2 :=
  ⟨fun k hk => (h2.1 k hk).trans (h.1 k hk), h2.2.1.trans h.2.1, h2.2.2.1.trans h.2.2.1, h2.2.2.2.1.trans h.2.2.2.1, h2.2.2.2.2.1.trans h.2.2.2.2.1, h2.2.2.2.2.2.1.trans h.2.2.2.2.2.1, Nat.le_trans h.2.2.2.2.2.2.1 h2.2.2.2.2.2.2.1, fun q hq => (h2.2.2.2.2.2.2.2 q (Nat.lt_of_lt_of_le hq h.2.2.2.2.2.2.1)).trans (h.2.2.2.2.2.2.2 q hq)⟩
theorem FnR.nm {s s' : St} (h : FnR s s') : NM s s' := ⟨h.2.2.2.2.2.2.1, fun q o hq hd => by rw [h.2.2.2.2.2.2.2 q hq]; exact hd⟩
theorem FnR.at {s : St} {x : Int32} : FnR s (sI s 1538 x) := ⟨fun k hk => by rw [gI_sI, if_neg hk], rfl, rfl, rfl, rfl, rfl, Nat.le_refl _, fun _ _ => rfl⟩
theorem RI.fr {t : Nat → Nat} {n i j : Nat} {s s' : St} (H : RI t n s i) (f : FnR s s') (hj : gI s' 1538 = io j) : RI t n s' j :=
  ⟨hj, by rw [f.1 1537 (by decide)]; exact H.2.1, by rw [f.2.2.2.2.2.1]; exact H.2.2.1, by rw [f.2.1]; exact H.2.2.2⟩
theorem RI.at {t : Nat → Nat} {n i j : Nat} {s : St} (H : RI t n s i) : RI t n (sI s 1538 (io j)) j := H.fr FnR.at rfl
theorem here_eq {F n i : Nat} {t : Nat → Nat} {s : St} (T : TXT t n) (H : RI t n s i) (hi : i ≤ n) : f_Reader_here F s = some (io (t i), s) := by
  have hn := T.1
  obtain ⟨h1, h2, h3, h4⟩ := H
  have n1 : ¬ i < 0 := by omega
  by_cases h : n ≤ i
  · rw [T.2.2 i h]
    simp (disch := omega) only [f_Reader_here, Option.bind_some, Nat.reduceEqDiff, Nat.add_zero, Nat.zero_add, Nat.reduceLT, Nat.reduceLeDiff, Nat.reduceAdd, Nat.reduceSub, Nat.reduceMul, Nat.reduceDiv, Nat.lt_irrefl, Nat.not_lt_zero, Nat.zero_le, Nat.one_ne_zero, Nat.succ_ne_zero,  lt_def, i32_lit, reduceIte, P_isIn_eq, or_false, false_or, or_true, true_or, and_true, true_and, and_false, false_and, not_true, not_false_eq_true, eq_self, if_true, if_false, not_or, not_and, Nat.not_lt, Nat.not_le, h1, h2, io_lt, n1, io_le, h]
  · have n2 : ¬ 40 ≤ i := by omega
    have e := h4 i (by omega)
    simp (disch := omega) only [f_Reader_here, Option.bind_some, Nat.reduceEqDiff, Nat.add_zero, Nat.zero_add, Nat.reduceLT, Nat.reduceLeDiff, Nat.reduceAdd, Nat.reduceSub, Nat.reduceMul, Nat.reduceDiv, Nat.lt_irrefl, Nat.not_lt_zero, Nat.zero_le, Nat.one_ne_zero, Nat.succ_ne_zero,  lt_def, i32_lit, reduceIte, P_isIn_eq, or_false, false_or, or_true, true_or, and_true, true_and, and_false, false_and, not_true, not_false_eq_true, eq_self, if_true, if_false, not_or, not_and, Nat.not_lt, Nat.not_le, h1, h2, h3, io_lt, n1, io_le, h, n2, ix_io, e]
theorem tlt {t : Nat → Nat} {n i : Nat} (T : TXT t n) : t i < 1000 := by
  rcases Nat.lt_or_ge i n with h | h
  · have := (T.2.1 i h).2; omega
  · rw [T.2.2 i h]; omega
theorem isDigit_eq {F c : Nat} {s : St} (hc : c < 1000) : f_P_isDigit F s (io c) = some (if dgt c = true then io 1 else io 0, s) := by
  unfold dgt
  by_cases h1 : c < 48
  · have h2 : ¬ (48 ≤ c ∧ c ≤ 57) := by omega
    simp (disch := omega) only [f_P_isDigit, Option.bind_some, Nat.reduceEqDiff, Nat.add_zero, Nat.zero_add, Nat.reduceLT, Nat.reduceLeDiff, Nat.reduceAdd, Nat.reduceSub, Nat.reduceMul, Nat.reduceDiv, Nat.lt_irrefl, Nat.not_lt_zero, Nat.zero_le, Nat.one_ne_zero, Nat.succ_ne_zero,  lt_def, i32_lit, reduceIte, P_isIn_eq, or_false, false_or, or_true, true_or, and_true, true_and, and_false, false_and, not_true, not_false_eq_true, eq_self, if_true, if_false, not_or, not_and, Nat.not_lt, Nat.not_le, io_lt, h1, h2, decide_false, Bool.false_eq_true]
  · by_cases h3 : 57 < c
    · have h2 : ¬ (48 ≤ c ∧ c ≤ 57) := by omega
      simp (disch := omega) only [f_P_isDigit, Option.bind_some, Nat.reduceEqDiff, Nat.add_zero, Nat.zero_add, Nat.reduceLT, Nat.reduceLeDiff, Nat.reduceAdd, Nat.reduceSub, Nat.reduceMul, Nat.reduceDiv, Nat.lt_irrefl, Nat.not_lt_zero, Nat.zero_le, Nat.one_ne_zero, Nat.succ_ne_zero,  lt_def, i32_lit, reduceIte, P_isIn_eq, or_false, false_or, or_true, true_or, and_true, true_and, and_false, false_and, not_true, not_false_eq_true, eq_self, if_true, if_false, not_or, not_and, Nat.not_lt, Nat.not_le, io_lt, h1, h2, h3, decide_false, Bool.false_eq_true]
    · have h2 : 48 ≤ c ∧ c ≤ 57 := by omega
      simp (disch := omega) only [f_P_isDigit, Option.bind_some, Nat.reduceEqDiff, Nat.add_zero, Nat.zero_add, Nat.reduceLT, Nat.reduceLeDiff, Nat.reduceAdd, Nat.reduceSub, Nat.reduceMul, Nat.reduceDiv, Nat.lt_irrefl, Nat.not_lt_zero, Nat.zero_le, Nat.one_ne_zero, Nat.succ_ne_zero,  lt_def, i32_lit, reduceIte, P_isIn_eq, or_false, false_or, or_true, true_or, and_true, true_and, and_false, false_and, not_true, not_false_eq_true, eq_self, if_true, if_false, not_or, not_and, Nat.not_lt, Nat.not_le, io_lt, h1, h2, h3, decide_true, and_self]
theorem isField_eq {F c : Nat} {s : St} (hc : c < 1000) : f_P_isField F s (io c) = some (if fdc c = true then io 1 else io 0, s) := by
  unfold fdc
  by_cases h1 : c = 112
  · subst h1; simp (disch := omega) only [f_P_isField, Option.bind_some, Nat.reduceEqDiff, Nat.add_zero, Nat.zero_add, Nat.reduceLT, Nat.reduceLeDiff, Nat.reduceAdd, Nat.reduceSub, Nat.reduceMul, Nat.reduceDiv, Nat.lt_irrefl, Nat.not_lt_zero, Nat.zero_le, Nat.one_ne_zero, Nat.succ_ne_zero,  lt_def, i32_lit, reduceIte, P_isIn_eq, or_false, false_or, or_true, true_or, and_true, true_and, and_false, false_and, not_true, not_false_eq_true, eq_self, if_true, if_false, not_or, not_and, Nat.not_lt, Nat.not_le, io_eq, decide_true]
  · by_cases h2 : c = 108
    · subst h2; simp (disch := omega) only [f_P_isField, Option.bind_some, Nat.reduceEqDiff, Nat.add_zero, Nat.zero_add, Nat.reduceLT, Nat.reduceLeDiff, Nat.reduceAdd, Nat.reduceSub, Nat.reduceMul, Nat.reduceDiv, Nat.lt_irrefl, Nat.not_lt_zero, Nat.zero_le, Nat.one_ne_zero, Nat.succ_ne_zero,  lt_def, i32_lit, reduceIte, P_isIn_eq, or_false, false_or, or_true, true_or, and_true, true_and, and_false, false_and, not_true, not_false_eq_true, eq_self, if_true, if_false, not_or, not_and, Nat.not_lt, Nat.not_le, io_eq, decide_true]
    · by_cases h3 : c = 118
      · subst h3; simp (disch := omega) only [f_P_isField, Option.bind_some, Nat.reduceEqDiff, Nat.add_zero, Nat.zero_add, Nat.reduceLT, Nat.reduceLeDiff, Nat.reduceAdd, Nat.reduceSub, Nat.reduceMul, Nat.reduceDiv, Nat.lt_irrefl, Nat.not_lt_zero, Nat.zero_le, Nat.one_ne_zero, Nat.succ_ne_zero,  lt_def, i32_lit, reduceIte, P_isIn_eq, or_false, false_or, or_true, true_or, and_true, true_and, and_false, false_and, not_true, not_false_eq_true, eq_self, if_true, if_false, not_or, not_and, Nat.not_lt, Nat.not_le, io_eq, decide_true]
      · by_cases h4 : c = 104
        · subst h4; simp (disch := omega) only [f_P_isField, Option.bind_some, Nat.reduceEqDiff, Nat.add_zero, Nat.zero_add, Nat.reduceLT, Nat.reduceLeDiff, Nat.reduceAdd, Nat.reduceSub, Nat.reduceMul, Nat.reduceDiv, Nat.lt_irrefl, Nat.not_lt_zero, Nat.zero_le, Nat.one_ne_zero, Nat.succ_ne_zero,  lt_def, i32_lit, reduceIte, P_isIn_eq, or_false, false_or, or_true, true_or, and_true, true_and, and_false, false_and, not_true, not_false_eq_true, eq_self, if_true, if_false, not_or, not_and, Nat.not_lt, Nat.not_le, io_eq, decide_true]
        · simp (disch := omega) only [f_P_isField, Option.bind_some, Nat.reduceEqDiff, Nat.add_zero, Nat.zero_add, Nat.reduceLT, Nat.reduceLeDiff, Nat.reduceAdd, Nat.reduceSub, Nat.reduceMul, Nat.reduceDiv, Nat.lt_irrefl, Nat.not_lt_zero, Nat.zero_le, Nat.one_ne_zero, Nat.succ_ne_zero,  lt_def, i32_lit, reduceIte, P_isIn_eq, or_false, false_or, or_true, true_or, and_true, true_and, and_false, false_and, not_true, not_false_eq_true, eq_self, if_true, if_false, not_or, not_and, Nat.not_lt, Nat.not_le, io_eq, h1, h2, h3, h4, decide_false, Bool.false_eq_true, or_self]
theorem isCmp_eq {F c : Nat} {s : St} (hc : c < 1000) : f_P_isComparison F s (io c) = some (if cmc c = true then io 1 else io 0, s) := by
  unfold cmc
  by_cases h1 : c = 60
  · subst h1; simp (disch := omega) only [f_P_isComparison, Option.bind_some, Nat.reduceEqDiff, Nat.add_zero, Nat.zero_add, Nat.reduceLT, Nat.reduceLeDiff, Nat.reduceAdd, Nat.reduceSub, Nat.reduceMul, Nat.reduceDiv, Nat.lt_irrefl, Nat.not_lt_zero, Nat.zero_le, Nat.one_ne_zero, Nat.succ_ne_zero,  lt_def, i32_lit, reduceIte, P_isIn_eq, or_false, false_or, or_true, true_or, and_true, true_and, and_false, false_and, not_true, not_false_eq_true, eq_self, if_true, if_false, not_or, not_and, Nat.not_lt, Nat.not_le, io_eq, decide_true]
  · by_cases h2 : c = 62
    · subst h2; simp (disch := omega) only [f_P_isComparison, Option.bind_some, Nat.reduceEqDiff, Nat.add_zero, Nat.zero_add, Nat.reduceLT, Nat.reduceLeDiff, Nat.reduceAdd, Nat.reduceSub, Nat.reduceMul, Nat.reduceDiv, Nat.lt_irrefl, Nat.not_lt_zero, Nat.zero_le, Nat.one_ne_zero, Nat.succ_ne_zero,  lt_def, i32_lit, reduceIte, P_isIn_eq, or_false, false_or, or_true, true_or, and_true, true_and, and_false, false_and, not_true, not_false_eq_true, eq_self, if_true, if_false, not_or, not_and, Nat.not_lt, Nat.not_le, io_eq, decide_true]
    · by_cases h3 : c = 61
      · subst h3; simp (disch := omega) only [f_P_isComparison, Option.bind_some, Nat.reduceEqDiff, Nat.add_zero, Nat.zero_add, Nat.reduceLT, Nat.reduceLeDiff, Nat.reduceAdd, Nat.reduceSub, Nat.reduceMul, Nat.reduceDiv, Nat.lt_irrefl, Nat.not_lt_zero, Nat.zero_le, Nat.one_ne_zero, Nat.succ_ne_zero,  lt_def, i32_lit, reduceIte, P_isIn_eq, or_false, false_or, or_true, true_or, and_true, true_and, and_false, false_and, not_true, not_false_eq_true, eq_self, if_true, if_false, not_or, not_and, Nat.not_lt, Nat.not_le, io_eq, decide_true]
      · simp (disch := omega) only [f_P_isComparison, Option.bind_some, Nat.reduceEqDiff, Nat.add_zero, Nat.zero_add, Nat.reduceLT, Nat.reduceLeDiff, Nat.reduceAdd, Nat.reduceSub, Nat.reduceMul, Nat.reduceDiv, Nat.lt_irrefl, Nat.not_lt_zero, Nat.zero_le, Nat.one_ne_zero, Nat.succ_ne_zero,  lt_def, i32_lit, reduceIte, P_isIn_eq, or_false, false_or, or_true, true_or, and_true, true_and, and_false, false_and, not_true, not_false_eq_true, eq_self, if_true, if_false, not_or, not_and, Nat.not_lt, Nat.not_le, io_eq, h1, h2, h3, decide_false, Bool.false_eq_true, or_self]
theorem isAgg_eq {F c : Nat} {s : St} (hc : c < 1000) : f_P_isAggregate F s (io c) = some (if agc c = true then io 1 else io 0, s) := by
  unfold agc
  by_cases h1 : c = 100
  · subst h1; simp (disch := omega) only [f_P_isAggregate, Option.bind_some, Nat.reduceEqDiff, Nat.add_zero, Nat.zero_add, Nat.reduceLT, Nat.reduceLeDiff, Nat.reduceAdd, Nat.reduceSub, Nat.reduceMul, Nat.reduceDiv, Nat.lt_irrefl, Nat.not_lt_zero, Nat.zero_le, Nat.one_ne_zero, Nat.succ_ne_zero,  lt_def, i32_lit, reduceIte, P_isIn_eq, or_false, false_or, or_true, true_or, and_true, true_and, and_false, false_and, not_true, not_false_eq_true, eq_self, if_true, if_false, not_or, not_and, Nat.not_lt, Nat.not_le, io_eq, decide_true]
  · by_cases h2 : c = 109
    · subst h2; simp (disch := omega) only [f_P_isAggregate, Option.bind_some, Nat.reduceEqDiff, Nat.add_zero, Nat.zero_add, Nat.reduceLT, Nat.reduceLeDiff, Nat.reduceAdd, Nat.reduceSub, Nat.reduceMul, Nat.reduceDiv, Nat.lt_irrefl, Nat.not_lt_zero, Nat.zero_le, Nat.one_ne_zero, Nat.succ_ne_zero,  lt_def, i32_lit, reduceIte, P_isIn_eq, or_false, false_or, or_true, true_or, and_true, true_and, and_false, false_and, not_true, not_false_eq_true, eq_self, if_true, if_false, not_or, not_and, Nat.not_lt, Nat.not_le, io_eq, decide_true]
    · by_cases h3 : c = 110
      · subst h3; simp (disch := omega) only [f_P_isAggregate, Option.bind_some, Nat.reduceEqDiff, Nat.add_zero, Nat.zero_add, Nat.reduceLT, Nat.reduceLeDiff, Nat.reduceAdd, Nat.reduceSub, Nat.reduceMul, Nat.reduceDiv, Nat.lt_irrefl, Nat.not_lt_zero, Nat.zero_le, Nat.one_ne_zero, Nat.succ_ne_zero,  lt_def, i32_lit, reduceIte, P_isIn_eq, or_false, false_or, or_true, true_or, and_true, true_and, and_false, false_and, not_true, not_false_eq_true, eq_self, if_true, if_false, not_or, not_and, Nat.not_lt, Nat.not_le, io_eq, decide_true]
      · by_cases h4 : c = 115
        · subst h4; simp (disch := omega) only [f_P_isAggregate, Option.bind_some, Nat.reduceEqDiff, Nat.add_zero, Nat.zero_add, Nat.reduceLT, Nat.reduceLeDiff, Nat.reduceAdd, Nat.reduceSub, Nat.reduceMul, Nat.reduceDiv, Nat.lt_irrefl, Nat.not_lt_zero, Nat.zero_le, Nat.one_ne_zero, Nat.succ_ne_zero,  lt_def, i32_lit, reduceIte, P_isIn_eq, or_false, false_or, or_true, true_or, and_true, true_and, and_false, false_and, not_true, not_false_eq_true, eq_self, if_true, if_false, not_or, not_and, Nat.not_lt, Nat.not_le, io_eq, decide_true]
        · by_cases h5 : c = 116
          · subst h5; simp (disch := omega) only [f_P_isAggregate, Option.bind_some, Nat.reduceEqDiff, Nat.add_zero, Nat.zero_add, Nat.reduceLT, Nat.reduceLeDiff, Nat.reduceAdd, Nat.reduceSub, Nat.reduceMul, Nat.reduceDiv, Nat.lt_irrefl, Nat.not_lt_zero, Nat.zero_le, Nat.one_ne_zero, Nat.succ_ne_zero,  lt_def, i32_lit, reduceIte, P_isIn_eq, or_false, false_or, or_true, true_or, and_true, true_and, and_false, false_and, not_true, not_false_eq_true, eq_self, if_true, if_false, not_or, not_and, Nat.not_lt, Nat.not_le, io_eq, decide_true]
          · by_cases h6 : c = 120
            · subst h6; simp (disch := omega) only [f_P_isAggregate, Option.bind_some, Nat.reduceEqDiff, Nat.add_zero, Nat.zero_add, Nat.reduceLT, Nat.reduceLeDiff, Nat.reduceAdd, Nat.reduceSub, Nat.reduceMul, Nat.reduceDiv, Nat.lt_irrefl, Nat.not_lt_zero, Nat.zero_le, Nat.one_ne_zero, Nat.succ_ne_zero,  lt_def, i32_lit, reduceIte, P_isIn_eq, or_false, false_or, or_true, true_or, and_true, true_and, and_false, false_and, not_true, not_false_eq_true, eq_self, if_true, if_false, not_or, not_and, Nat.not_lt, Nat.not_le, io_eq, decide_true]
            · simp (disch := omega) only [f_P_isAggregate, Option.bind_some, Nat.reduceEqDiff, Nat.add_zero, Nat.zero_add, Nat.reduceLT, Nat.reduceLeDiff, Nat.reduceAdd, Nat.reduceSub, Nat.reduceMul, Nat.reduceDiv, Nat.lt_irrefl, Nat.not_lt_zero, Nat.zero_le, Nat.one_ne_zero, Nat.succ_ne_zero,  lt_def, i32_lit, reduceIte, P_isIn_eq, or_false, false_or, or_true, true_or, and_true, true_and, and_false, false_and, not_true, not_false_eq_true, eq_self, if_true, if_false, not_or, not_and, Nat.not_lt, Nat.not_le, io_eq, h1, h2, h3, h4, h5, h6, decide_false, Bool.false_eq_true, or_self]
theorem isSign_eq {F g c : Nat} {s : St} (hg : g ≤ 4) (hc : c < 1000) : f_Reader_isSignOf F s (io g) (io c) = some (if sgc g c = true then io 1 else io 0, s) := by
  unfold sgc
  rcases (by omega : g = 0 ∨ g = 1 ∨ g = 2 ∨ g = 3 ∨ g = 4) with rfl | rfl | rfl | rfl | rfl
  · have e := isCmp_eq (F := F) (s := s) hc
    by_cases h : cmc c = true
    · rw [if_pos h] at e
      simp (disch := omega) only [f_Reader_isSignOf, Option.bind_some, Nat.reduceEqDiff, Nat.add_zero, Nat.zero_add, Nat.reduceLT, Nat.reduceLeDiff, Nat.reduceAdd, Nat.reduceSub, Nat.reduceMul, Nat.reduceDiv, Nat.lt_irrefl, Nat.not_lt_zero, Nat.zero_le, Nat.one_ne_zero, Nat.succ_ne_zero,  lt_def, i32_lit, reduceIte, P_isIn_eq, or_false, false_or, or_true, true_or, and_true, true_and, and_false, false_and, not_true, not_false_eq_true, eq_self, if_true, if_false, not_or, not_and, Nat.not_lt, Nat.not_le, io_eq, e, h]
    · rw [if_neg h] at e
      simp (disch := omega) only [f_Reader_isSignOf, Option.bind_some, Nat.reduceEqDiff, Nat.add_zero, Nat.zero_add, Nat.reduceLT, Nat.reduceLeDiff, Nat.reduceAdd, Nat.reduceSub, Nat.reduceMul, Nat.reduceDiv, Nat.lt_irrefl, Nat.not_lt_zero, Nat.zero_le, Nat.one_ne_zero, Nat.succ_ne_zero,  lt_def, i32_lit, reduceIte, P_isIn_eq, or_false, false_or, or_true, true_or, and_true, true_and, and_false, false_and, not_true, not_false_eq_true, eq_self, if_true, if_false, not_or, not_and, Nat.not_lt, Nat.not_le, io_eq, e, h, Bool.false_eq_true]
  · by_cases h1 : c = 43
    · subst h1; simp (disch := omega) only [f_Reader_isSignOf, Option.bind_some, Nat.reduceEqDiff, Nat.add_zero, Nat.zero_add, Nat.reduceLT, Nat.reduceLeDiff, Nat.reduceAdd, Nat.reduceSub, Nat.reduceMul, Nat.reduceDiv, Nat.lt_irrefl, Nat.not_lt_zero, Nat.zero_le, Nat.one_ne_zero, Nat.succ_ne_zero,  lt_def, i32_lit, reduceIte, P_isIn_eq, or_false, false_or, or_true, true_or, and_true, true_and, and_false, false_and, not_true, not_false_eq_true, eq_self, if_true, if_false, not_or, not_and, Nat.not_lt, Nat.not_le, io_eq, decide_true]
    · by_cases h2 : c = 45
      · subst h2; simp (disch := omega) only [f_Reader_isSignOf, Option.bind_some, Nat.reduceEqDiff, Nat.add_zero, Nat.zero_add, Nat.reduceLT, Nat.reduceLeDiff, Nat.reduceAdd, Nat.reduceSub, Nat.reduceMul, Nat.reduceDiv, Nat.lt_irrefl, Nat.not_lt_zero, Nat.zero_le, Nat.one_ne_zero, Nat.succ_ne_zero,  lt_def, i32_lit, reduceIte, P_isIn_eq, or_false, false_or, or_true, true_or, and_true, true_and, and_false, false_and, not_true, not_false_eq_true, eq_self, if_true, if_false, not_or, not_and, Nat.not_lt, Nat.not_le, io_eq, decide_true]
      · simp (disch := omega) only [f_Reader_isSignOf, Option.bind_some, Nat.reduceEqDiff, Nat.add_zero, Nat.zero_add, Nat.reduceLT, Nat.reduceLeDiff, Nat.reduceAdd, Nat.reduceSub, Nat.reduceMul, Nat.reduceDiv, Nat.lt_irrefl, Nat.not_lt_zero, Nat.zero_le, Nat.one_ne_zero, Nat.succ_ne_zero,  lt_def, i32_lit, reduceIte, P_isIn_eq, or_false, false_or, or_true, true_or, and_true, true_and, and_false, false_and, not_true, not_false_eq_true, eq_self, if_true, if_false, not_or, not_and, Nat.not_lt, Nat.not_le, io_eq, h1, h2, decide_false, Bool.false_eq_true, or_self]
  · by_cases h1 : c = 42
    · subst h1; simp (disch := omega) only [f_Reader_isSignOf, Option.bind_some, Nat.reduceEqDiff, Nat.add_zero, Nat.zero_add, Nat.reduceLT, Nat.reduceLeDiff, Nat.reduceAdd, Nat.reduceSub, Nat.reduceMul, Nat.reduceDiv, Nat.lt_irrefl, Nat.not_lt_zero, Nat.zero_le, Nat.one_ne_zero, Nat.succ_ne_zero,  lt_def, i32_lit, reduceIte, P_isIn_eq, or_false, false_or, or_true, true_or, and_true, true_and, and_false, false_and, not_true, not_false_eq_true, eq_self, if_true, if_false, not_or, not_and, Nat.not_lt, Nat.not_le, io_eq, decide_true]
    · by_cases h2 : c = 47
      · subst h2; simp (disch := omega) only [f_Reader_isSignOf, Option.bind_some, Nat.reduceEqDiff, Nat.add_zero, Nat.zero_add, Nat.reduceLT, Nat.reduceLeDiff, Nat.reduceAdd, Nat.reduceSub, Nat.reduceMul, Nat.reduceDiv, Nat.lt_irrefl, Nat.not_lt_zero, Nat.zero_le, Nat.one_ne_zero, Nat.succ_ne_zero,  lt_def, i32_lit, reduceIte, P_isIn_eq, or_false, false_or, or_true, true_or, and_true, true_and, and_false, false_and, not_true, not_false_eq_true, eq_self, if_true, if_false, not_or, not_and, Nat.not_lt, Nat.not_le, io_eq, decide_true]
      · simp (disch := omega) only [f_Reader_isSignOf, Option.bind_some, Nat.reduceEqDiff, Nat.add_zero, Nat.zero_add, Nat.reduceLT, Nat.reduceLeDiff, Nat.reduceAdd, Nat.reduceSub, Nat.reduceMul, Nat.reduceDiv, Nat.lt_irrefl, Nat.not_lt_zero, Nat.zero_le, Nat.one_ne_zero, Nat.succ_ne_zero,  lt_def, i32_lit, reduceIte, P_isIn_eq, or_false, false_or, or_true, true_or, and_true, true_and, and_false, false_and, not_true, not_false_eq_true, eq_self, if_true, if_false, not_or, not_and, Nat.not_lt, Nat.not_le, io_eq, h1, h2, decide_false, Bool.false_eq_true, or_self]
  · by_cases h1 : c = 124
    · subst h1; simp (disch := omega) only [f_Reader_isSignOf, Option.bind_some, Nat.reduceEqDiff, Nat.add_zero, Nat.zero_add, Nat.reduceLT, Nat.reduceLeDiff, Nat.reduceAdd, Nat.reduceSub, Nat.reduceMul, Nat.reduceDiv, Nat.lt_irrefl, Nat.not_lt_zero, Nat.zero_le, Nat.one_ne_zero, Nat.succ_ne_zero,  lt_def, i32_lit, reduceIte, P_isIn_eq, or_false, false_or, or_true, true_or, and_true, true_and, and_false, false_and, not_true, not_false_eq_true, eq_self, if_true, if_false, not_or, not_and, Nat.not_lt, Nat.not_le, io_eq, decide_true]
    · simp (disch := omega) only [f_Reader_isSignOf, Option.bind_some, Nat.reduceEqDiff, Nat.add_zero, Nat.zero_add, Nat.reduceLT, Nat.reduceLeDiff, Nat.reduceAdd, Nat.reduceSub, Nat.reduceMul, Nat.reduceDiv, Nat.lt_irrefl, Nat.not_lt_zero, Nat.zero_le, Nat.one_ne_zero, Nat.succ_ne_zero,  lt_def, i32_lit, reduceIte, P_isIn_eq, or_false, false_or, or_true, true_or, and_true, true_and, and_false, false_and, not_true, not_false_eq_true, eq_self, if_true, if_false, not_or, not_and, Nat.not_lt, Nat.not_le, io_eq, h1, decide_false, Bool.false_eq_true]
  · by_cases h1 : c = 38
    · subst h1; simp (disch := omega) only [f_Reader_isSignOf, Option.bind_some, Nat.reduceEqDiff, Nat.add_zero, Nat.zero_add, Nat.reduceLT, Nat.reduceLeDiff, Nat.reduceAdd, Nat.reduceSub, Nat.reduceMul, Nat.reduceDiv, Nat.lt_irrefl, Nat.not_lt_zero, Nat.zero_le, Nat.one_ne_zero, Nat.succ_ne_zero,  lt_def, i32_lit, reduceIte, P_isIn_eq, or_false, false_or, or_true, true_or, and_true, true_and, and_false, false_and, not_true, not_false_eq_true, eq_self, if_true, if_false, not_or, not_and, Nat.not_lt, Nat.not_le, io_eq, decide_true]
    · simp (disch := omega) only [f_Reader_isSignOf, Option.bind_some, Nat.reduceEqDiff, Nat.add_zero, Nat.zero_add, Nat.reduceLT, Nat.reduceLeDiff, Nat.reduceAdd, Nat.reduceSub, Nat.reduceMul, Nat.reduceDiv, Nat.lt_irrefl, Nat.not_lt_zero, Nat.zero_le, Nat.one_ne_zero, Nat.succ_ne_zero,  lt_def, i32_lit, reduceIte, P_isIn_eq, or_false, false_or, or_true, true_or, and_true, true_and, and_false, false_and, not_true, not_false_eq_true, eq_self, if_true, if_false, not_or, not_and, Nat.not_lt, Nat.not_le, io_eq, h1, decide_false, Bool.false_eq_true]
/-! a node is made -/
theorem dgo_at {s : St} {q : Nat} {o : (Nat → Int32) × (Nat → Option Nat) × (Nat → Int64)} {ci : Nat} (h : gD s q = some (.inl (ci, o))) : dgo s (some q) ci = some (q, o) := by
  unfold dgo
  simp only [h, if_true]
theorem dgo_sF {s : St} {o : Nat × (Nat → Int32) × (Nat → Option Nat) × (Nat → Int64)} {ci : Nat} {x : (Nat → Int32) × (Nat → Option Nat) × (Nat → Int64)} : dgo (sF s o ci x) (some o.1) ci = some (o.1, x) := by
  refine dgo_at ?_
  show gD (sD s o.1 (.inl (ci, x))) o.1 = _
  rw [gD_sD, if_pos rfl]
theorem gD_sF {s : St} {o : Nat × (Nat → Int32) × (Nat → Option Nat) × (Nat → Int64)} {ci p : Nat} {x : (Nat → Int32) × (Nat → Option Nat) × (Nat → Int64)} : gD (sF s o ci x) p = if p = o.1 then some (.inl (ci, x)) else gD s p := rfl
/-- all but the cell q is as it was -/
def OC (q : Nat) (s s' : St) : Prop := gI s' = gI s ∧ gA s' = gA s ∧ gL s' = gL s ∧ gJ s' = gJ s ∧ gQ s' = gQ s ∧ gR s' = gR s ∧ sz s' = sz s ∧ ∀ p, p ≠ q → gD s' p = gD s p
theorem node_init {F q : Nat} {s : St} {o : (Nat → Int32) × (Nat → Option Nat) × (Nat → Int64)} {k n : Int32} {l r : Option Nat} (h : gD s q = some (.inl (3, o))) : ∃ s', f_Node_init F s (some q) k n l r = some s' ∧ OC q s s' ∧ ∃ o', gD s' q = some (.inl (3, o')) ∧ o'.1 0 = k ∧ o'.1 1 = n ∧ o'.2.1 2 = l ∧ o'.2.1 3 = r := by
  have e : ∀ (s : St) (o x : (Nat → Int32) × (Nat → Option Nat) × (Nat → Int64)), dgo (sF s (q, o) 3 x) (some q) 3 = some (q, x) := fun s o x => dgo_sF (o := (q, o))
  refine ⟨sF (sF (sF (sF s (q, o) 3 (ups o.1 0 k, o.2)) (q, ups o.1 0 k, o.2) 3 (ups (ups o.1 0 k) 1 n, o.2)) (q, ups (ups o.1 0 k) 1 n, o.2) 3 (ups (ups o.1 0 k) 1 n, ups o.2.1 2 l, o.2.2)) (q, ups (ups o.1 0 k) 1 n, ups o.2.1 2 l, o.2.2) 3 (ups (ups o.1 0 k) 1 n, ups (ups o.2.1 2 l) 3 r, o.2.2), ?_, ?_⟩
  · simp only [f_Node_init, dgo_at h, e, Option.bind_some, lt_def]
  · refine ⟨⟨rfl, rfl, rfl, rfl, rfl, rfl, rfl, fun p hp => ?_⟩, ?_⟩
    · simp only [gD_sF, hp, if_false]
    · refine ⟨_, by rw [gD_sF, if_pos rfl], ?_, ?_, ?_, ?_⟩ <;> simp [ups]
def z3 : Dy := .inl (3, fun _ => io 0, fun _ => none, fun _ => 0)
theorem z3_eq : (Sum.inl (3, (fun _ => io 0), (fun _ => none), (fun _ => 0)) : Dy) = z3 := rfl
/-- a node is made and filled -/
theorem node_new {F : Nat} {s : St} {k n : Int32} {l r : Option Nat} : ∃ s', f_Node_init F (sN s z3) (some (sz s)) k n l r = some s' ∧ FnR s s' ∧ gI s' = gI s ∧ sz s' = sz s + 1 ∧ nd s' (sz s) k n l r := by
  have h : gD (sN s z3) (sz s) = some (.inl (3, fun _ => io 0, fun _ => none, fun _ => 0)) := by rw [gD_sN, if_pos rfl]; rfl
  obtain ⟨s', h1, ⟨c1, c2, c3, c4, c5, c6, c7, c8⟩, o', h3, h4⟩ := node_init (F := F) (k := k) (n := n) (l := l) (r := r) h
  refine ⟨s', h1, ⟨fun j _ => by rw [c1]; rfl, c2, c3, c4, c5, c6, by rw [c7]; show sz s ≤ sz s + 1; omega, fun q hq => ?_⟩, c1, c7, ?_, o', h3, h4⟩
  · rw [c8 q (by omega), gD_sN, if_neg (by omega)]
  · rw [c7]; show sz s < sz s + 1; omega
theorem node_dgo {s : St} : dgo (sN s z3) (some (sz s)) 3 = some (sz s, (fun _ => io 0, fun _ => none, fun _ => 0)) := dgo_at (by rw [gD_sN, if_pos rfl]; rfl)

/-! the reader reads as the grammar does -/
def RR {α : Type} (T : St → Nat → Nat → List α → Prop) (t : Nat → Nat) (n : Nat) (s : St) (i : Nat) (r : Option (List α) × Nat) (q' : Option Nat) (s' : St) : Prop :=
  FnR s s' ∧ RI t n s' r.2 ∧ sz s' + i ≤ sz s + r.2 ∧ (r.1 = none → q' = none) ∧ ∀ c, r.1 = some c → ∃ q, q' = some q ∧ T s' (r.2 - i) q c
theorem num_loop {F Z n : Nat} {t : Nat → Nat} (T : TXT t n) : ∀ k m v dg i s, dg + k = 4 → k < m → i ≤ n → RI t n s i → (0 < dg ∨ dgt (t i) = true) → ∃ s1, FnR s s1 ∧ RI t n s1 (nb t k v i).2 ∧ sz s1 = sz s ∧ f_Reader_readNumber_b4 F Z m s (io v) (io dg) = (if sz s1 < Z then (f_Node_init F (sN s1 z3) (some (sz s1)) (io 35) (io (nb t k v i).1) none none).bind (fun x => some (some (sz s1), x)) else none) := by
  intro k
  induction k with
  | zero =>
    intro m v dg i s hk hm hi H hd
    obtain ⟨m, rfl⟩ : ∃ m', m = m' + 1 := ⟨m - 1, by omega⟩
    have hdg : dg = 4 := by omega
    subst hdg
    refine ⟨s, FnR.rf, H, rfl, ?_⟩
    simp (disch := omega) only [f_Reader_readNumber_b4, Option.bind_some, Nat.reduceEqDiff, Nat.add_zero, Nat.zero_add, Nat.reduceLT, Nat.reduceLeDiff, Nat.reduceAdd, Nat.reduceSub, Nat.reduceMul, Nat.reduceDiv, Nat.lt_irrefl, Nat.not_lt_zero, Nat.zero_le, Nat.one_ne_zero, Nat.succ_ne_zero,  lt_def, i32_lit, reduceIte, P_isIn_eq, or_false, false_or, or_true, true_or, and_true, true_and, and_false, false_and, not_true, not_false_eq_true, eq_self, if_true, if_false, not_or, not_and, Nat.not_lt, Nat.not_le, io_le, io_eq, Nat.le_refl, z3_eq, node_dgo, Option.bind_some, nb]
  | succ k ih =>
    intro m v dg i s hk hm hi H hd
    obtain ⟨m, rfl⟩ : ∃ m', m = m' + 1 := ⟨m - 1, by omega⟩
    have h4 : ¬ 4 ≤ dg := by omega
    have ht := tlt (i := i) T
    have hh := here_eq (F := F) T H hi
    have hdig := isDigit_eq (F := F) (s := s) ht
    have e38 := H.1
    unfold nb
    by_cases h : dgt (t i) = true
    · have i1 := T.bin h
      have h48 : 48 ≤ t i := by unfold dgt at h; exact (of_decide_eq_true h).1
      rw [if_pos h] at hdig ⊢
      obtain ⟨s1, a1, a2, a3, a4⟩ := ih m (10 * v + (t i - 48)) (dg + 1) (i + 1) (sI s 1538 (io (i + 1))) (by omega) (by omega) i1 H.at (Or.inl (by omega))
      refine ⟨s1, FnR.at.trans a1, a2, a3, ?_⟩
      simp (disch := omega) only [f_Reader_readNumber_b4, Option.bind_some, Nat.reduceEqDiff, Nat.add_zero, Nat.zero_add, Nat.reduceLT, Nat.reduceLeDiff, Nat.reduceAdd, Nat.reduceSub, Nat.reduceMul, Nat.reduceDiv, Nat.lt_irrefl, Nat.not_lt_zero, Nat.zero_le, Nat.one_ne_zero, Nat.succ_ne_zero,  lt_def, i32_lit, reduceIte, P_isIn_eq, or_false, false_or, or_true, true_or, and_true, true_and, and_false, false_and, not_true, not_false_eq_true, eq_self, if_true, if_false, not_or, not_and, Nat.not_lt, Nat.not_le, io_le, h4, hh, hdig, io_eq, io_mul, io_sub, io_add, e38]
      exact a4
    · rw [if_neg h] at hdig ⊢
      have hd0 : 0 < dg := hd.resolve_right h
      have hd1 : ¬ dg = 0 := by omega
      refine ⟨s, FnR.rf, H, rfl, ?_⟩
      simp (disch := omega) only [f_Reader_readNumber_b4, Option.bind_some, Nat.reduceEqDiff, Nat.add_zero, Nat.zero_add, Nat.reduceLT, Nat.reduceLeDiff, Nat.reduceAdd, Nat.reduceSub, Nat.reduceMul, Nat.reduceDiv, Nat.lt_irrefl, Nat.not_lt_zero, Nat.zero_le, Nat.one_ne_zero, Nat.succ_ne_zero,  lt_def, i32_lit, reduceIte, P_isIn_eq, or_false, false_or, or_true, true_or, and_true, true_and, and_false, false_and, not_true, not_false_eq_true, eq_self, if_true, if_false, not_or, not_and, Nat.not_lt, Nat.not_le, io_le, h4, hh, hdig, io_eq, hd1, z3_eq, node_dgo, Option.bind_some]
theorem readNumber_eq {F Z n i : Nat} (hF : 5000 ≤ F) {t : Nat → Nat} {s : St} (T : TXT t n) (hi : i ≤ n) (H : RI t n s i) (hZ : sz s + (n - i) ≤ Z) : ∃ q' s', f_Reader_readNumber F Z s = some (q', s') ∧ FnR s s' ∧ RI t n s' (pNum t i).2 ∧
    (((pNum t i).1 = none ∧ q' = none ∧ sz s' = sz s) ∨ ∃ v, (pNum t i).1 = some v ∧ q' = some (sz s) ∧ sz s' = sz s + 1 ∧ v ≤ 9999 ∧ nd s' (sz s) (io 35) (io v) none none) := by
  have g := num_gd T hi
  unfold pNum at g ⊢
  by_cases h : dgt (t i) = true
  · rw [if_pos h] at g ⊢
    have i1 := T.bin h
    obtain ⟨s1, a1, a2, a3, a4⟩ := num_loop (F := F) (Z := Z) T 4 F 0 0 i s (by omega) (by omega) hi H (Or.inr h)
    obtain ⟨s2, b1, b2, b3, b4, b5⟩ := node_new (F := F) (s := s1) (k := io 35) (n := io (nb t 4 0 i).1) (l := none) (r := none)
    rw [if_pos (by omega), b1, Option.bind_some] at a4
    refine ⟨some (sz s1), s2, a4, a1.trans b2, a2.fr b2 (by rw [b3]; exact a2.1), Or.inr ⟨_, rfl, by rw [a3], by omega, (g.2.2 _ rfl).2, by rw [← a3]; exact b5⟩⟩
  · rw [if_neg h]
    obtain ⟨F', rfl⟩ : ∃ m, F = m + 1 := ⟨F - 1, by omega⟩
    have hh := here_eq (F := F' + 1) T H hi
    have hdig := isDigit_eq (F := F' + 1) (s := s) (tlt (i := i) T)
    rw [if_neg h] at hdig
    refine ⟨none, s, ?_, FnR.rf, H, Or.inl ⟨rfl, rfl, rfl⟩⟩
    have n4 : ¬ 4 ≤ 0 := by omega
    simp (disch := omega) only [f_Reader_readNumber, f_Reader_readNumber_b4, Option.bind_some, Nat.reduceEqDiff, Nat.add_zero, Nat.zero_add, Nat.reduceLT, Nat.reduceLeDiff, Nat.reduceAdd, Nat.reduceSub, Nat.reduceMul, Nat.reduceDiv, Nat.lt_irrefl, Nat.not_lt_zero, Nat.zero_le, Nat.one_ne_zero, Nat.succ_ne_zero,  lt_def, i32_lit, reduceIte, P_isIn_eq, or_false, false_or, or_true, true_or, and_true, true_and, and_false, false_and, not_true, not_false_eq_true, eq_self, if_true, if_false, not_or, not_and, Nat.not_lt, Nat.not_le, io_le, n4, hh, hdig, io_eq]
theorem readField_t {F Z n i : Nat} {t : Nat → Nat} {s : St} (T : TXT t n) (H : RI t n s i) (h : fdc (t i) = true) (hZ : sz s < Z) : ∃ s', f_Reader_readField F Z s = some (some (sz s), s') ∧ FnR s s' ∧ RI t n s' (i + 1) ∧ sz s' = sz s + 1 ∧ nd s' (sz s) (io (t i)) (io 0) none none := by
  have i1 := T.bin h
  have hh := here_eq (F := F) T H (by omega)
  have hf := isField_eq (F := F) (s := s) (tlt (i := i) T)
  rw [if_pos h] at hf
  have e38 := H.1
  obtain ⟨s2, b1, b2, b3, b4, b5⟩ := node_new (F := F) (s := sI s 1538 (io (i + 1))) (k := io (t i)) (n := io 0) (l := none) (r := none)
  refine ⟨s2, ?_, FnR.at.trans b2, H.at.fr b2 (by rw [b3]; rfl), b4, b5⟩
  have hz : sz (sI s 1538 (io (i + 1))) < Z := hZ
  simp (disch := omega) only [f_Reader_readField, Option.bind_some, Nat.reduceEqDiff, Nat.add_zero, Nat.zero_add, Nat.reduceLT, Nat.reduceLeDiff, Nat.reduceAdd, Nat.reduceSub, Nat.reduceMul, Nat.reduceDiv, Nat.lt_irrefl, Nat.not_lt_zero, Nat.zero_le, Nat.one_ne_zero, Nat.succ_ne_zero,  lt_def, i32_lit, reduceIte, P_isIn_eq, or_false, false_or, or_true, true_or, and_true, true_and, and_false, false_and, not_true, not_false_eq_true, eq_self, if_true, if_false, not_or, not_and, Nat.not_lt, Nat.not_le, hh, hf, io_eq, io_add, e38, hz, z3_eq, node_dgo, Option.bind_some, b1]
  rfl
theorem readField_f {F Z n i : Nat} {t : Nat → Nat} {s : St} (T : TXT t n) (hi : i ≤ n) (H : RI t n s i) (h : ¬ fdc (t i) = true) : f_Reader_readField F Z s = some (none, s) := by
  have hh := here_eq (F := F) T H hi
  have hf := isField_eq (F := F) (s := s) (tlt (i := i) T)
  rw [if_neg h] at hf
  simp (disch := omega) only [f_Reader_readField, Option.bind_some, Nat.reduceEqDiff, Nat.add_zero, Nat.zero_add, Nat.reduceLT, Nat.reduceLeDiff, Nat.reduceAdd, Nat.reduceSub, Nat.reduceMul, Nat.reduceDiv, Nat.lt_irrefl, Nat.not_lt_zero, Nat.zero_le, Nat.one_ne_zero, Nat.succ_ne_zero,  lt_def, i32_lit, reduceIte, P_isIn_eq, or_false, false_or, or_true, true_or, and_true, true_and, and_false, false_and, not_true, not_false_eq_true, eq_self, if_true, if_false, not_or, not_and, Nat.not_lt, Nat.not_le, hh, hf, io_eq]
theorem before_some {F Z l : Nat} {s : St} {k : Int32} (hZ : sz s < Z) : ∃ s', f_Reader_before F Z s k (some l) = some (some (sz s), s') ∧ FnR s s' ∧ gI s' = gI s ∧ sz s' = sz s + 1 ∧ nd s' (sz s) k (io 0) (some l) none := by
  obtain ⟨s2, b1, b2, b3, b4, b5⟩ := node_new (F := F) (s := s) (k := k) (n := io 0) (l := some l) (r := none)
  refine ⟨s2, ?_, b2, b3, b4, b5⟩
  have h0 : ¬ some l = none := by simp
  simp (disch := omega) only [f_Reader_before, Option.bind_some, Nat.reduceEqDiff, Nat.add_zero, Nat.zero_add, Nat.reduceLT, Nat.reduceLeDiff, Nat.reduceAdd, Nat.reduceSub, Nat.reduceMul, Nat.reduceDiv, Nat.lt_irrefl, Nat.not_lt_zero, Nat.zero_le, Nat.one_ne_zero, Nat.succ_ne_zero,  lt_def, i32_lit, reduceIte, P_isIn_eq, or_false, false_or, or_true, true_or, and_true, true_and, and_false, false_and, not_true, not_false_eq_true, eq_self, if_true, if_false, not_or, not_and, Nat.not_lt, Nat.not_le, h0, hZ, z3_eq, node_dgo, Option.bind_some, b1]
theorem b62_eq {F Z n i b l f sg : Nat} (hF : 5000 ≤ F) {t : Nat → Nat} {s : St} (T : TXT t n) (hi : i ≤ n) (H : RI t n s i) (hb : b ≤ 1) (hZ : sz s + (n - i) + 1 + b ≤ Z) (h1 : cmc sg = true) (h2 : fdc f = true) (hl : nd s l (io f) (io 0) none none) :
    ∃ q' s', f_Reader_readComparison_b62 F Z s (some l) (io sg) (io b) = some (q', s') ∧ FnR s s' ∧ RI t n s' (pNum t i).2 ∧
    (((pNum t i).1 = none ∧ q' = none ∧ sz s' = sz s) ∨ ∃ v q, (pNum t i).1 = some v ∧ q' = some q ∧ sz s' = sz s + 2 + b ∧ TC s' 3 q [(sg, f, v, b)]) := by
  obtain ⟨q1, s1, a1, a2, a3, a4⟩ := readNumber_eq hF T hi H (Z := Z) (by omega)
  rcases a4 with ⟨c1, rfl, c3⟩ | ⟨v, c1, rfl, c3, c4, c5⟩
  · have hz : sz s1 ≤ Z := by omega
    refine ⟨none, s1, ?_, a2, a3, Or.inl ⟨c1, rfl, c3⟩⟩
    simp (disch := omega) only [f_Reader_readComparison_b62, Option.bind_some, Nat.reduceEqDiff, Nat.add_zero, Nat.zero_add, Nat.reduceLT, Nat.reduceLeDiff, Nat.reduceAdd, Nat.reduceSub, Nat.reduceMul, Nat.reduceDiv, Nat.lt_irrefl, Nat.not_lt_zero, Nat.zero_le, Nat.one_ne_zero, Nat.succ_ne_zero,  lt_def, i32_lit, reduceIte, P_isIn_eq, or_false, false_or, or_true, true_or, and_true, true_and, and_false, false_and, not_true, not_false_eq_true, eq_self, if_true, if_false, not_or, not_and, Nat.not_lt, Nat.not_le, a1, hz]
  · have hin : i < n := by
      rcases Nat.lt_or_ge i n with h | h
      · exact h
      · unfold pNum at c1
        rw [T.2.2 i h, if_neg (by decide)] at c1
        cases c1
    have hz : sz s1 ≤ Z := by omega
    have hz2 : sz s1 < Z := by omega
    have hne : ¬ some (sz s) = none := by simp
    rcases (by omega : b = 0 ∨ b = 1) with rfl | rfl
    · obtain ⟨s2, b1, b2, b3, b4, b5⟩ := node_new (F := F) (s := s1) (k := io sg) (n := io 0) (l := some l) (r := some (sz s))
      refine ⟨some (sz s1), s2, ?_, a2.trans b2, a3.fr b2 (by rw [b3]; exact a3.1), Or.inr ⟨v, sz s1, c1, rfl, by omega, Or.inl ⟨sg, f, v, 0, l, sz s, rfl, Nat.le_refl _, h1, h2, c4, b5, hl.nm (a2.trans b2).nm, Or.inl ⟨rfl, c5.nm b2.nm⟩⟩⟩⟩
      simp (disch := omega) only [f_Reader_readComparison_b62, Option.bind_some, Nat.reduceEqDiff, Nat.add_zero, Nat.zero_add, Nat.reduceLT, Nat.reduceLeDiff, Nat.reduceAdd, Nat.reduceSub, Nat.reduceMul, Nat.reduceDiv, Nat.lt_irrefl, Nat.not_lt_zero, Nat.zero_le, Nat.one_ne_zero, Nat.succ_ne_zero,  lt_def, i32_lit, reduceIte, P_isIn_eq, or_false, false_or, or_true, true_or, and_true, true_and, and_false, false_and, not_true, not_false_eq_true, eq_self, if_true, if_false, not_or, not_and, Nat.not_lt, Nat.not_le, a1, hz, hne, hz2, z3_eq, node_dgo, Option.bind_some, b1]
    · have hz3 : sz (sN s1 z3) < Z := by show sz s1 + 1 < Z; omega
      obtain ⟨s2, b1, b2, b3, b4, b5⟩ := before_some (F := F) (Z := Z) (s := sN s1 z3) (l := sz s) (k := io 126) hz3
      have hD : gD s2 (sz s1) = some (.inl (3, fun _ => io 0, fun _ => none, fun _ => 0)) := by
        rw [b2.2.2.2.2.2.2.2 (sz s1) (by show sz s1 < sz s1 + 1; omega), gD_sN, if_pos rfl]; rfl
      obtain ⟨s3, d1, ⟨e1, e2, e3, e4, e5, e6, e7, e8⟩, o', f1, f2⟩ := node_init (F := F) (k := io sg) (n := io 0) (l := some l) (r := some (sz (sN s1 z3))) hD
      have hz4 : sz s2 ≤ Z := by rw [b4]; show sz s1 + 1 + 1 ≤ Z; omega
      have fr : FnR s1 s3 := by
        refine ⟨fun k hk => by rw [e1, b3]; rfl, by rw [e2, b2.2.1]; rfl, by rw [e3, b2.2.2.1]; rfl, by rw [e4, b2.2.2.2.1]; rfl, by rw [e5, b2.2.2.2.2.1]; rfl, by rw [e6, b2.2.2.2.2.2.1]; rfl, by rw [e7, b4]; show sz s1 ≤ sz s1 + 1 + 1; omega, fun q hq => ?_⟩
        rw [e8 q (by omega), b2.2.2.2.2.2.2.2 q (by show q < sz s1 + 1; omega), gD_sN, if_neg (by omega)]
      have nm23 : nd s3 (sz (sN s1 z3)) (io 126) (io 0) (some (sz s)) none := by
        obtain ⟨g1, o, g2, g3⟩ := b5
        exact ⟨by rw [e7]; exact g1, o, by rw [e8 _ (by show sz s1 + 1 ≠ sz s1; omega)]; exact g2, g3⟩
      refine ⟨some (sz s1), s3, ?_, a2.trans fr, a3.fr fr (by rw [e1, b3]; exact a3.1), Or.inr ⟨v, sz s1, c1, rfl, by rw [e7, b4]; show sz s1 + 1 + 1 = _; omega, Or.inl ⟨sg, f, v, 1, l, sz (sN s1 z3), rfl, Nat.le_refl _, h1, h2, c4, ⟨by rw [e7, b4]; show sz s1 < sz s1 + 1 + 1; omega, o', f1, f2⟩, hl.nm (a2.trans fr).nm, Or.inr ⟨rfl, sz s, nm23, c5.nm fr.nm⟩⟩⟩⟩
      have hdg := dgo_at hD
      simp (disch := omega) only [f_Reader_readComparison_b62, Option.bind_some, Nat.reduceEqDiff, Nat.add_zero, Nat.zero_add, Nat.reduceLT, Nat.reduceLeDiff, Nat.reduceAdd, Nat.reduceSub, Nat.reduceMul, Nat.reduceDiv, Nat.lt_irrefl, Nat.not_lt_zero, Nat.zero_le, Nat.one_ne_zero, Nat.succ_ne_zero,  lt_def, i32_lit, reduceIte, P_isIn_eq, or_false, false_or, or_true, true_or, and_true, true_and, and_false, false_and, not_true, not_false_eq_true, eq_self, if_true, if_false, not_or, not_and, Nat.not_lt, Nat.not_le, a1, hz, hne, hz2, z3_eq, io_eq, b1, hz4, hdg, d1]
theorem cmp_RR {F Z n i : Nat} (hF : 5000 ≤ F) {t : Nat → Nat} {s : St} (T : TXT t n) (hi : i ≤ n) (H : RI t n s i) (hZ : sz s + (n - i) ≤ Z) : ∃ q' s', f_Reader_readComparison F Z s = some (q', s') ∧ RR TC t n s i (pCmp t i) q' s' := by
  unfold pCmp
  by_cases h : fdc (t i) = true
  · rw [if_pos h]
    have i1 := T.bin h
    obtain ⟨s1, a1, a2, a3, a4, a5⟩ := readField_t (F := F) (Z := Z) T H h (by omega)
    have hz : sz s1 ≤ Z := by omega
    have hne : ¬ some (sz s) = none := by simp
    have hh := here_eq (F := F) T a3 i1
    have hc := isCmp_eq (F := F) (s := s1) (tlt (i := i + 1) T)
    have e38 := a3.1
    by_cases h2 : cmc (t (i + 1)) = true
    · rw [if_pos h2] at hc ⊢
      have i2 := T.bin h2
      have H2 : RI t n (sI s1 1538 (io (i + 2))) (i + 2) := a3.at
      have hh2 := here_eq (F := F) T H2 i2
      have key : ∀ b j s3 s5 q', b ≤ 1 → j = i + 2 + b → j ≤ n → FnR s1 s3 → sz s3 = sz s1 → FnR s3 s5 → RI t n s5 (pNum t j).2 → (((pNum t j).1 = none ∧ q' = none ∧ sz s5 = sz s3) ∨ ∃ v q, (pNum t j).1 = some v ∧ q' = some q ∧ sz s5 = sz s3 + 2 + b ∧ TC s5 3 q [(t (i + 1), t i, v, b)]) → RR TC t n s i (cmpE (t (i + 1)) (t i) b (pNum t j)) q' s5 := by
        intro b j s3 s5 q' hb hj hjn f1 f2 f3 f4 f5
        obtain ⟨g1, g2, g3⟩ := num_gd T hjn
        unfold cmpE
        rcases f5 with ⟨x1, x2, x3⟩ | ⟨v, q, x1, x2, x3, x4⟩
        · rw [x1]
          exact ⟨(a2.trans f1).trans f3, f4, by show sz s5 + i ≤ sz s + (pNum t j).2; omega, fun _ => x2, fun c hc => by cases hc⟩
        · have := (g3 v x1).1
          rw [x1]
          refine ⟨(a2.trans f1).trans f3, f4, by show sz s5 + i ≤ sz s + (pNum t j).2; omega, (fun h => by cases h), fun c hc => ?_⟩
          cases hc
          exact ⟨q, x2, x4.le (by show 3 ≤ (pNum t j).2 - i; omega)⟩
      by_cases h3 : t (i + 2) = 45
      · have i3 := T.in' h3
        rw [if_pos h3]
        obtain ⟨q', s5, c1, c2, c3, c4⟩ := b62_eq (b := 1) hF T i3 (H2.at (j := i + 3)) (by omega) (Z := Z) (by show sz s1 + (n - (i + 3)) + 1 + 1 ≤ Z; omega) h2 h (a5.nm (FnR.at.trans FnR.at).nm)
        refine ⟨q', s5, ?_, key 1 (i + 3) _ s5 q' (by omega) (by omega) i3 (FnR.at.trans FnR.at) rfl c2 c3 c4⟩
        simp (disch := omega) only [f_Reader_readComparison, Option.bind_some, Nat.reduceEqDiff, Nat.add_zero, Nat.zero_add, Nat.reduceLT, Nat.reduceLeDiff, Nat.reduceAdd, Nat.reduceSub, Nat.reduceMul, Nat.reduceDiv, Nat.lt_irrefl, Nat.not_lt_zero, Nat.zero_le, Nat.one_ne_zero, Nat.succ_ne_zero,  lt_def, i32_lit, reduceIte, P_isIn_eq, or_false, false_or, or_true, true_or, and_true, true_and, and_false, false_and, not_true, not_false_eq_true, eq_self, if_true, if_false, not_or, not_and, Nat.not_lt, Nat.not_le, a1, hz, hh, hne, hc, io_eq, io_add, e38, hh2, h3, gI_sI, sI_sI] at c1 ⊢
        exact c1
      · rw [if_neg h3]
        obtain ⟨q', s5, c1, c2, c3, c4⟩ := b62_eq (b := 0) hF T i2 H2 (by omega) (Z := Z) (by show sz s1 + (n - (i + 2)) + 1 + 0 ≤ Z; omega) h2 h (a5.nm FnR.at.nm)
        refine ⟨q', s5, ?_, key 0 (i + 2) _ s5 q' (by omega) (by omega) i2 FnR.at rfl c2 c3 c4⟩
        have ht := tlt (i := i + 2) T
        simp (disch := omega) only [f_Reader_readComparison, Option.bind_some, Nat.reduceEqDiff, Nat.add_zero, Nat.zero_add, Nat.reduceLT, Nat.reduceLeDiff, Nat.reduceAdd, Nat.reduceSub, Nat.reduceMul, Nat.reduceDiv, Nat.lt_irrefl, Nat.not_lt_zero, Nat.zero_le, Nat.one_ne_zero, Nat.succ_ne_zero,  lt_def, i32_lit, reduceIte, P_isIn_eq, or_false, false_or, or_true, true_or, and_true, true_and, and_false, false_and, not_true, not_false_eq_true, eq_self, if_true, if_false, not_or, not_and, Nat.not_lt, Nat.not_le, a1, hz, hh, hne, hc, io_eq, io_add, e38, hh2, h3] at c1 ⊢
        exact c1
    · rw [if_neg h2] at hc ⊢
      refine ⟨none, s1, ?_, a2, a3, by show sz s1 + i ≤ sz s + (i + 1); omega, fun _ => rfl, fun c hc => by cases hc⟩
      simp (disch := omega) only [f_Reader_readComparison, Option.bind_some, Nat.reduceEqDiff, Nat.add_zero, Nat.zero_add, Nat.reduceLT, Nat.reduceLeDiff, Nat.reduceAdd, Nat.reduceSub, Nat.reduceMul, Nat.reduceDiv, Nat.lt_irrefl, Nat.not_lt_zero, Nat.zero_le, Nat.one_ne_zero, Nat.succ_ne_zero,  lt_def, i32_lit, reduceIte, P_isIn_eq, or_false, false_or, or_true, true_or, and_true, true_and, and_false, false_and, not_true, not_false_eq_true, eq_self, if_true, if_false, not_or, not_and, Nat.not_lt, Nat.not_le, a1, hz, hh, hne, hc]
  · rw [if_neg h]
    have hh := here_eq (F := F) T H hi
    have hz : sz s ≤ Z := by omega
    refine ⟨none, s, ?_, FnR.rf, H, by show sz s + i ≤ sz s + i; omega, fun _ => rfl, fun c hc => by cases hc⟩
    simp (disch := omega) only [f_Reader_readComparison, Option.bind_some, Nat.reduceEqDiff, Nat.add_zero, Nat.zero_add, Nat.reduceLT, Nat.reduceLeDiff, Nat.reduceAdd, Nat.reduceSub, Nat.reduceMul, Nat.reduceDiv, Nat.lt_irrefl, Nat.not_lt_zero, Nat.zero_le, Nat.one_ne_zero, Nat.succ_ne_zero,  lt_def, i32_lit, reduceIte, P_isIn_eq, or_false, false_or, or_true, true_or, and_true, true_and, and_false, false_and, not_true, not_false_eq_true, eq_self, if_true, if_false, not_or, not_and, Nat.not_lt, Nat.not_le, readField_f T hi H h, hz, hh]
/-! chains, brackets, signs ahead: for both kinds of trees -/
def TOK {α : Type} (T : St → Nat → Nat → List α → Prop) : Prop := (∀ s s', NM s s' → ∀ d q c, T s d q c → T s' d q c) ∧ ∀ s d d' q c, T s d q c → d ≤ d' → T s d' q c
theorem TOK_C : TOK TC := ⟨fun _ _ f => TC.nm f, fun _ _ _ _ _ h hd => h.le hd⟩
theorem TOK_Q : TOK TQ := ⟨fun _ _ f => TQ.nm f, fun _ _ _ _ _ h hd => h.le hd⟩
theorem closed_RR {α : Type} {T : St → Nat → Nat → List α → Prop} (TT : TOK T) {F n i : Nat} {t : Nat → Nat} {s s' : St} {r : Option (List α) × Nat} {q' : Option Nat} (TX : TXT t n) (hr : r.2 ≤ n) (h : RR T t n s i r q' s') : ∃ q2 s2, f_Reader_closed F s' q' = some (q2, s2) ∧ RR T t n s i (clo t r) q2 s2 := by
  obtain ⟨h1, h2, h3, h4, h5⟩ := h
  unfold clo
  cases hc : r.1 with
  | none =>
    have := h4 hc
    subst this
    refine ⟨none, s', ?_, h1, h2, h3, fun _ => rfl, fun c h => by cases h⟩
    simp (disch := omega) only [f_Reader_closed, Option.bind_some, Nat.reduceEqDiff, Nat.add_zero, Nat.zero_add, Nat.reduceLT, Nat.reduceLeDiff, Nat.reduceAdd, Nat.reduceSub, Nat.reduceMul, Nat.reduceDiv, Nat.lt_irrefl, Nat.not_lt_zero, Nat.zero_le, Nat.one_ne_zero, Nat.succ_ne_zero,  lt_def, i32_lit, reduceIte, P_isIn_eq, or_false, false_or, or_true, true_or, and_true, true_and, and_false, false_and, not_true, not_false_eq_true, eq_self, if_true, if_false, not_or, not_and, Nat.not_lt, Nat.not_le]
  | some c =>
    obtain ⟨q, rfl, h6⟩ := h5 c hc
    have hh := here_eq (F := F) TX h2 hr
    have hne : ¬ some q = none := by simp
    have e38 := h2.1
    have ht := tlt (i := r.2) TX
    dsimp only
    by_cases h41 : t r.2 = 41
    · rw [if_pos h41]
      refine ⟨some q, sI s' 1538 (io (r.2 + 1)), ?_, h1.trans FnR.at, h2.at, by show sz s' + i ≤ sz s + (r.2 + 1); omega, (fun h => by cases h), fun c' hc' => ?_⟩
      · simp (disch := omega) only [f_Reader_closed, Option.bind_some, Nat.reduceEqDiff, Nat.add_zero, Nat.zero_add, Nat.reduceLT, Nat.reduceLeDiff, Nat.reduceAdd, Nat.reduceSub, Nat.reduceMul, Nat.reduceDiv, Nat.lt_irrefl, Nat.not_lt_zero, Nat.zero_le, Nat.one_ne_zero, Nat.succ_ne_zero,  lt_def, i32_lit, reduceIte, P_isIn_eq, or_false, false_or, or_true, true_or, and_true, true_and, and_false, false_and, not_true, not_false_eq_true, eq_self, if_true, if_false, not_or, not_and, Nat.not_lt, Nat.not_le, hne, hh, h41, io_eq, e38, io_add]
      · cases hc'
        exact ⟨q, rfl, TT.2 _ _ _ _ _ (TT.1 _ _ FnR.at.nm _ _ _ h6) (by show r.2 - i ≤ r.2 + 1 - i; omega)⟩
    · rw [if_neg h41]
      refine ⟨none, s', ?_, h1, h2, h3, fun _ => rfl, fun c h => by cases h⟩
      simp (disch := omega) only [f_Reader_closed, Option.bind_some, Nat.reduceEqDiff, Nat.add_zero, Nat.zero_add, Nat.reduceLT, Nat.reduceLeDiff, Nat.reduceAdd, Nat.reduceSub, Nat.reduceMul, Nat.reduceDiv, Nat.lt_irrefl, Nat.not_lt_zero, Nat.zero_le, Nat.one_ne_zero, Nat.succ_ne_zero,  lt_def, i32_lit, reduceIte, P_isIn_eq, or_false, false_or, or_true, true_or, and_true, true_and, and_false, false_and, not_true, not_false_eq_true, eq_self, if_true, if_false, not_or, not_and, Nat.not_lt, Nat.not_le, hne, hh, h41, io_eq]
theorem before_RR {α : Type} {T : St → Nat → Nat → List α → Prop} (TT : TOK T) {x : α} {k F n i Z : Nat} {t : Nat → Nat} {s s0 s' : St} {r : Option (List α) × Nat} {q' : Option Nat} (hun : ∀ s q l d c, nd s q (io k) (io 0) (some l) none → T s d l c → T s (d + 1) q (c ++ [x])) (hr1 : i + 1 ≤ r.2) (hr : r.2 ≤ n) (hs0 : sz s = sz s0) (hf : FnR s0 s) (hZ : sz s + (n - i) ≤ Z) (hg : ∀ c, r.1 = some c → i + 1 < r.2) (h : RR T t n s (i + 1) r q' s') : ∃ q2 s2, f_Reader_before F Z s' (io k) q' = some (q2, s2) ∧ sz s2 ≤ Z ∧ RR T t n s0 i (post x r) q2 s2 := by
  obtain ⟨h1, h2, h3, h4, h5⟩ := h
  unfold post
  cases hc : r.1 with
  | none =>
    have := h4 hc
    subst this
    refine ⟨none, s', ?_, by omega, hf.trans h1, h2, by show sz s' + i ≤ sz s0 + r.2; omega, fun _ => rfl, fun c h => by cases h⟩
    simp (disch := omega) only [f_Reader_before, Option.bind_some, Nat.reduceEqDiff, Nat.add_zero, Nat.zero_add, Nat.reduceLT, Nat.reduceLeDiff, Nat.reduceAdd, Nat.reduceSub, Nat.reduceMul, Nat.reduceDiv, Nat.lt_irrefl, Nat.not_lt_zero, Nat.zero_le, Nat.one_ne_zero, Nat.succ_ne_zero,  lt_def, i32_lit, reduceIte, P_isIn_eq, or_false, false_or, or_true, true_or, and_true, true_and, and_false, false_and, not_true, not_false_eq_true, eq_self, if_true, if_false, not_or, not_and, Nat.not_lt, Nat.not_le]
  | some c =>
    obtain ⟨q, rfl, h6⟩ := h5 c hc
    have := hg c hc
    obtain ⟨s2, b1, b2, b3, b4, b5⟩ := before_some (F := F) (Z := Z) (s := s') (l := q) (k := io k) (by omega)
    refine ⟨some (sz s'), s2, b1, by omega, (hf.trans h1).trans b2, h2.fr b2 (by rw [b3]; exact h2.1), by show sz s2 + i ≤ sz s0 + r.2; omega, (fun h => by cases h), fun c' hc' => ?_⟩
    cases hc'
    refine ⟨sz s', rfl, ?_⟩
    have := hun s2 (sz s') q (r.2 - (i + 1)) c b5 (TT.1 _ _ b2.nm _ _ _ h6)
    exact TT.2 _ _ _ _ _ this (by show r.2 - (i + 1) + 1 ≤ r.2 - i; omega)
def calR (R : Nat → St → Int32 → Int32 → Option (Option Nat × St)) (g : Nat) (s : St) (a : Int32) : Option (Option Nat × St) := if g = 2 then R 1 s a (io 0) else if g = 4 then R 3 s a (io 0) else R 0 s (io (g + 1)) a
theorem b20_eq {R : Nat → St → Int32 → Int32 → Option (Option Nat × St)} {F Z m g : Nat} {s : St} {l2 l3 l5 l6 : Int32} {l4 : Option Nat} (hg : g ≤ 4) : f_Reader_readChain_b20 R F Z (m + 1) s (io g) l2 l3 l4 l5 l6 = if l3 < l6 then some (none, s) else (calR R g s l2).bind (fun x => if sz x.2 ≤ Z then f_Reader_readChain_b60 R F Z (f_Reader_readChain_b20 R F Z m) x.2 (io g) l2 l3 l4 l5 l6 x.1 else none) := by
  unfold calR
  rcases (by omega : g = 0 ∨ g = 1 ∨ g = 2 ∨ g = 3 ∨ g = 4) with rfl | rfl | rfl | rfl | rfl <;> simp (disch := omega) only [f_Reader_readChain_b20, Option.bind_some, Nat.reduceEqDiff, Nat.add_zero, Nat.zero_add, Nat.reduceLT, Nat.reduceLeDiff, Nat.reduceAdd, Nat.reduceSub, Nat.reduceMul, Nat.reduceDiv, Nat.lt_irrefl, Nat.not_lt_zero, Nat.zero_le, Nat.one_ne_zero, Nat.succ_ne_zero,  lt_def, i32_lit, reduceIte, P_isIn_eq, or_false, false_or, or_true, true_or, and_true, true_and, and_false, false_and, not_true, not_false_eq_true, eq_self, if_true, if_false, not_or, not_and, Nat.not_lt, Nat.not_le, io_eq, io_add]
section CHN
variable {α : Type} {T : St → Nat → Nat → List α → Prop} {tk : Nat → α} {g F Z n a i0 most : Nat} {R : Nat → St → Int32 → Int32 → Option (Option Nat × St)} {t : Nat → Nat} {part : Nat → Option (List α) × Nat} {s0 : St}
theorem chn_RR (TT : TOK T) (hg : g ≤ 4) (hbin : ∀ s q l r d c1 c2 sg, sgc g sg = true → nd s q (io sg) (io 0) (some l) (some r) → T s d l c1 → T s d r c2 → T s (d + 1) q (c1 ++ c2 ++ [tk sg])) (TX : TXT t n) (hmost : most ≤ 40)
    (hgd : ∀ i, i ≤ n → GD n i (part i) (fun _ _ => True)) (hpart : ∀ s i, i0 ≤ i → i ≤ n → RI t n s i → sz s + (n - i) ≤ Z → ∃ q' s', calR R g s (io a) = some (q', s') ∧ RR T t n s i (part i) q' s') (hZ : sz s0 + (n - i0) ≤ Z) :
    ∀ k m acc i u s qa, u + k = most → k < m → i0 < i → i ≤ n → FnR s0 s → RI t n s i → sz s + i0 ≤ sz s0 + i → T s (i - i0) qa acc →
    ∃ q' s', f_Reader_readChain_b93 R F Z (f_Reader_readChain_b20 R F Z m) s (io g) (io a) (io most) (io u) (some qa) = some (q', s') ∧ RR T t n s0 i0 (chn t part (sgc g) tk k acc i) q' s' := by
  have h00 : sgc g 0 = false := by
    rcases (by omega : g = 0 ∨ g = 1 ∨ g = 2 ∨ g = 3 ∨ g = 4) with rfl | rfl | rfl | rfl | rfl <;> rfl
  intro k
  induction k with
  | zero =>
    intro m acc i u s qa hu hm h0 hi f H hs hT
    have hu' : u = most := by omega
    have hh := here_eq (F := F) TX H hi
    refine ⟨some qa, s, ?_, f, H, hs, (fun h => by cases h), fun c hc => ?_⟩
    · simp (disch := omega) only [f_Reader_readChain_b93, Option.bind_some, Nat.reduceEqDiff, Nat.add_zero, Nat.zero_add, Nat.reduceLT, Nat.reduceLeDiff, Nat.reduceAdd, Nat.reduceSub, Nat.reduceMul, Nat.reduceDiv, Nat.lt_irrefl, Nat.not_lt_zero, Nat.zero_le, Nat.one_ne_zero, Nat.succ_ne_zero,  lt_def, i32_lit, reduceIte, P_isIn_eq, or_false, false_or, or_true, true_or, and_true, true_and, and_false, false_and, not_true, not_false_eq_true, eq_self, if_true, if_false, not_or, not_and, Nat.not_lt, Nat.not_le, hh, hu', io_eq]
    · cases hc; exact ⟨qa, rfl, hT⟩
  | succ k ih =>
    intro m acc i u s qa hu hm h0 hi f H hs hT
    have hu' : ¬ u = most := by omega
    have hh := here_eq (F := F) TX H hi
    have hsg := isSign_eq (F := F) (s := s) hg (tlt (i := i) TX)
    have e38 := H.1
    unfold chn
    by_cases h : sgc g (t i) = true
    · have i1 := TX.bin h h00
      rw [if_pos h] at hsg ⊢
      obtain ⟨m, rfl⟩ : ∃ m', m = m' + 1 := ⟨m - 1, by omega⟩
      have H1 : RI t n (sI s 1538 (io (i + 1))) (i + 1) := H.at
      have f1 : FnR s0 (sI s 1538 (io (i + 1))) := f.trans FnR.at
      obtain ⟨g1, g2, g3⟩ := hgd (i + 1) i1
      obtain ⟨q', s2, p1, p2, p3, p4, p5, p6⟩ := hpart (sI s 1538 (io (i + 1))) (i + 1) (by omega) i1 H1 (by show sz s + (n - (i + 1)) ≤ Z; omega)
      have p4' : sz s2 + (i + 1) ≤ sz s + (part (i + 1)).2 := p4
      have hlt : ¬ most < u + 1 := by omega
      have hz : sz s2 ≤ Z := by omega
      cases hr : (part (i + 1)).1 with
      | none =>
        have := p5 hr
        subst this
        refine ⟨none, s2, ?_, f1.trans p2, p3, by show sz s2 + i0 ≤ sz s0 + (part (i + 1)).2; omega, fun _ => rfl, fun c h => by cases h⟩
        simp (disch := omega) only [f_Reader_readChain_b93, Option.bind_some, Nat.reduceEqDiff, Nat.add_zero, Nat.zero_add, Nat.reduceLT, Nat.reduceLeDiff, Nat.reduceAdd, Nat.reduceSub, Nat.reduceMul, Nat.reduceDiv, Nat.lt_irrefl, Nat.not_lt_zero, Nat.zero_le, Nat.one_ne_zero, Nat.succ_ne_zero,  lt_def, i32_lit, reduceIte, P_isIn_eq, or_false, false_or, or_true, true_or, and_true, true_and, and_false, false_and, not_true, not_false_eq_true, eq_self, if_true, if_false, not_or, not_and, Nat.not_lt, Nat.not_le, hh, hsg, io_eq, hu', e38, io_add, b20_eq hg, io_lt, hlt, p1, hz, f_Reader_readChain_b60]
      | some c =>
        obtain ⟨q, rfl, p7⟩ := p6 c hr
        have gi := (g3 c hr).1
        have hne : ¬ some q = none := by simp
        have hu0 : ¬ u + 1 = 0 := by omega
        have hz2 : sz s2 < Z := by omega
        obtain ⟨s3, b1, b2, b3, b4, b5⟩ := node_new (F := F) (s := s2) (k := io (t i)) (n := io 0) (l := some qa) (r := some q)
        have f3 := (f1.trans p2).trans b2
        have H3 : RI t n s3 (part (i + 1)).2 := p3.fr b2 (by rw [b3]; exact p3.1)
        have hT3 : T s3 ((part (i + 1)).2 - i0) (sz s2) (acc ++ c ++ [tk (t i)]) := by
          have x1 := TT.2 _ _ ((part (i + 1)).2 - i0 - 1) _ _ (TT.1 _ _ ((FnR.at.trans p2).trans b2).nm _ _ _ hT) (by omega)
          have x2 := TT.2 _ _ ((part (i + 1)).2 - i0 - 1) _ _ (TT.1 _ _ b2.nm _ _ _ p7) (by omega)
          have x3 := hbin s3 (sz s2) qa q _ acc c (t i) h b5 x1 x2
          rw [show (part (i + 1)).2 - i0 - 1 + 1 = (part (i + 1)).2 - i0 by omega] at x3
          exact x3
        obtain ⟨q'', s4, r1, r2⟩ := ih m (acc ++ c ++ [tk (t i)]) (part (i + 1)).2 (u + 1) s3 (sz s2) (by omega) (by omega) (by omega) g2 f3 H3 (by omega) hT3
        refine ⟨q'', s4, ?_, r2⟩
        have e1 : f_Reader_readChain_b60 R F Z (f_Reader_readChain_b20 R F Z m) s2 (io g) (io a) (io most) (some qa) (io (t i)) (io (u + 1)) (some q) = some (q'', s4) := by
          simp (disch := omega) only [f_Reader_readChain_b60, Option.bind_some, Nat.reduceEqDiff, Nat.add_zero, Nat.zero_add, Nat.reduceLT, Nat.reduceLeDiff, Nat.reduceAdd, Nat.reduceSub, Nat.reduceMul, Nat.reduceDiv, Nat.lt_irrefl, Nat.not_lt_zero, Nat.zero_le, Nat.one_ne_zero, Nat.succ_ne_zero,  lt_def, i32_lit, reduceIte, P_isIn_eq, or_false, false_or, or_true, true_or, and_true, true_and, and_false, false_and, not_true, not_false_eq_true, eq_self, if_true, if_false, not_or, not_and, Nat.not_lt, Nat.not_le, hne, io_eq, hu0, hz2, z3_eq, node_dgo, Option.bind_some, b1]
          exact r1
        simp (disch := omega) only [f_Reader_readChain_b93, Option.bind_some, Nat.reduceEqDiff, Nat.add_zero, Nat.zero_add, Nat.reduceLT, Nat.reduceLeDiff, Nat.reduceAdd, Nat.reduceSub, Nat.reduceMul, Nat.reduceDiv, Nat.lt_irrefl, Nat.not_lt_zero, Nat.zero_le, Nat.one_ne_zero, Nat.succ_ne_zero,  lt_def, i32_lit, reduceIte, P_isIn_eq, or_false, false_or, or_true, true_or, and_true, true_and, and_false, false_and, not_true, not_false_eq_true, eq_self, if_true, if_false, not_or, not_and, Nat.not_lt, Nat.not_le, hh, hsg, io_eq, hu', e38, io_add, b20_eq hg, io_lt, hlt, p1, hz]
        exact e1
    · rw [if_neg h] at hsg ⊢
      refine ⟨some qa, s, ?_, f, H, hs, (fun h => by cases h), fun c hc => ?_⟩
      · simp (disch := omega) only [f_Reader_readChain_b93, Option.bind_some, Nat.reduceEqDiff, Nat.add_zero, Nat.zero_add, Nat.reduceLT, Nat.reduceLeDiff, Nat.reduceAdd, Nat.reduceSub, Nat.reduceMul, Nat.reduceDiv, Nat.lt_irrefl, Nat.not_lt_zero, Nat.zero_le, Nat.one_ne_zero, Nat.succ_ne_zero,  lt_def, i32_lit, reduceIte, P_isIn_eq, or_false, false_or, or_true, true_or, and_true, true_and, and_false, false_and, not_true, not_false_eq_true, eq_self, if_true, if_false, not_or, not_and, Nat.not_lt, Nat.not_le, hh, hsg, io_eq, hu']
      · cases hc; exact ⟨qa, rfl, hT⟩
theorem chain_RR (hF : 5000 ≤ F) (TT : TOK T) (hg : g ≤ 4) (hbin : ∀ s q l r d c1 c2 sg, sgc g sg = true → nd s q (io sg) (io 0) (some l) (some r) → T s d l c1 → T s d r c2 → T s (d + 1) q (c1 ++ c2 ++ [tk sg])) (TX : TXT t n) (hmost : most = if g = 0 then 1 else 40) (h0 : i0 ≤ n)
    (hgd : ∀ i, i ≤ n → GD n i (part i) (fun _ _ => True)) (hpart : ∀ s i, i0 ≤ i → i ≤ n → RI t n s i → sz s + (n - i) ≤ Z → ∃ q' s', calR R g s (io a) = some (q', s') ∧ RR T t n s i (part i) q' s') (hZ : sz s0 + (n - i0) ≤ Z) (H : RI t n s0 i0) :
    ∃ q' s', f_Reader_readChain R F Z s0 (io g) (io a) = some (q', s') ∧ RR T t n s0 i0 (chain t part (sgc g) tk most i0) q' s' := by
  obtain ⟨F', rfl⟩ : ∃ m, F = m + 1 := ⟨F - 1, by omega⟩
  obtain ⟨q', s2, p1, p2, p3, p4, p5, p6⟩ := hpart s0 i0 (Nat.le_refl _) h0 H hZ
  obtain ⟨g1, g2, g3⟩ := hgd i0 h0
  have hz : sz s2 ≤ Z := by omega
  have hm40 : most ≤ 40 := by rw [hmost]; split <;> omega
  have e0 : f_Reader_readChain R (F' + 1) Z s0 (io g) (io a) = f_Reader_readChain_b60 R (F' + 1) Z (f_Reader_readChain_b20 R (F' + 1) Z F') s2 (io g) (io a) (io most) none (io 0) (io 0) q' := by
    by_cases hg0 : g = 0
    · rw [if_pos hg0] at hmost
      have h9 : ¬ 1 < 0 := by omega
      subst hg0
      simp (disch := omega) only [f_Reader_readChain, Option.bind_some, Nat.reduceEqDiff, Nat.add_zero, Nat.zero_add, Nat.reduceLT, Nat.reduceLeDiff, Nat.reduceAdd, Nat.reduceSub, Nat.reduceMul, Nat.reduceDiv, Nat.lt_irrefl, Nat.not_lt_zero, Nat.zero_le, Nat.one_ne_zero, Nat.succ_ne_zero,  lt_def, i32_lit, reduceIte, P_isIn_eq, or_false, false_or, or_true, true_or, and_true, true_and, and_false, false_and, not_true, not_false_eq_true, eq_self, if_true, if_false, not_or, not_and, Nat.not_lt, Nat.not_le, io_eq, hmost]
      simp (disch := omega) only [b20_eq hg, io_lt, h9, Option.bind_some, Nat.reduceEqDiff, Nat.add_zero, Nat.zero_add, Nat.reduceLT, Nat.reduceLeDiff, Nat.reduceAdd, Nat.reduceSub, Nat.reduceMul, Nat.reduceDiv, Nat.lt_irrefl, Nat.not_lt_zero, Nat.zero_le, Nat.one_ne_zero, Nat.succ_ne_zero,  lt_def, i32_lit, reduceIte, P_isIn_eq, or_false, false_or, or_true, true_or, and_true, true_and, and_false, false_and, not_true, not_false_eq_true, eq_self, if_true, if_false, not_or, not_and, Nat.not_lt, Nat.not_le, p1, hz]
    · rw [if_neg hg0] at hmost
      have h9 : ¬ 40 < 0 := by omega
      simp (disch := omega) only [f_Reader_readChain, Option.bind_some, Nat.reduceEqDiff, Nat.add_zero, Nat.zero_add, Nat.reduceLT, Nat.reduceLeDiff, Nat.reduceAdd, Nat.reduceSub, Nat.reduceMul, Nat.reduceDiv, Nat.lt_irrefl, Nat.not_lt_zero, Nat.zero_le, Nat.one_ne_zero, Nat.succ_ne_zero,  lt_def, i32_lit, reduceIte, P_isIn_eq, or_false, false_or, or_true, true_or, and_true, true_and, and_false, false_and, not_true, not_false_eq_true, eq_self, if_true, if_false, not_or, not_and, Nat.not_lt, Nat.not_le, io_eq, hg0, hmost]
      simp (disch := omega) only [b20_eq hg, io_lt, h9, Option.bind_some, Nat.reduceEqDiff, Nat.add_zero, Nat.zero_add, Nat.reduceLT, Nat.reduceLeDiff, Nat.reduceAdd, Nat.reduceSub, Nat.reduceMul, Nat.reduceDiv, Nat.lt_irrefl, Nat.not_lt_zero, Nat.zero_le, Nat.one_ne_zero, Nat.succ_ne_zero,  lt_def, i32_lit, reduceIte, P_isIn_eq, or_false, false_or, or_true, true_or, and_true, true_and, and_false, false_and, not_true, not_false_eq_true, eq_self, if_true, if_false, not_or, not_and, Nat.not_lt, Nat.not_le, p1, hz]
  rw [e0]
  unfold chain
  cases hr : (part i0).1 with
  | none =>
    have := p5 hr
    subst this
    refine ⟨none, s2, ?_, p2, p3, p4, fun _ => rfl, fun c h => by cases h⟩
    simp (disch := omega) only [f_Reader_readChain_b60, Option.bind_some, Nat.reduceEqDiff, Nat.add_zero, Nat.zero_add, Nat.reduceLT, Nat.reduceLeDiff, Nat.reduceAdd, Nat.reduceSub, Nat.reduceMul, Nat.reduceDiv, Nat.lt_irrefl, Nat.not_lt_zero, Nat.zero_le, Nat.one_ne_zero, Nat.succ_ne_zero,  lt_def, i32_lit, reduceIte, P_isIn_eq, or_false, false_or, or_true, true_or, and_true, true_and, and_false, false_and, not_true, not_false_eq_true, eq_self, if_true, if_false, not_or, not_and, Nat.not_lt, Nat.not_le]
  | some c =>
    obtain ⟨q, rfl, p7⟩ := p6 c hr
    have gi := (g3 c hr).1
    have hne : ¬ some q = none := by simp
    obtain ⟨q'', s4, r1, r2⟩ := chn_RR (F := F' + 1) TT hg hbin TX hm40 hgd hpart hZ most F' c (part i0).2 0 s2 q (by omega) (by omega) gi g2 p2 p3 p4 p7
    refine ⟨q'', s4, ?_, r2⟩
    simp (disch := omega) only [f_Reader_readChain_b60, Option.bind_some, Nat.reduceEqDiff, Nat.add_zero, Nat.zero_add, Nat.reduceLT, Nat.reduceLeDiff, Nat.reduceAdd, Nat.reduceSub, Nat.reduceMul, Nat.reduceDiv, Nat.lt_irrefl, Nat.not_lt_zero, Nat.zero_le, Nat.one_ne_zero, Nat.succ_ne_zero,  lt_def, i32_lit, reduceIte, P_isIn_eq, or_false, false_or, or_true, true_or, and_true, true_and, and_false, false_and, not_true, not_false_eq_true, eq_self, if_true, if_false, not_or, not_and, Nat.not_lt, Nat.not_le, hne]
    exact r1
end CHN
/-! the reader's recursion -/
def rdC (F Z d g : Nat) (s : St) (a : Int32) : Option (Option Nat × St) := if g = 5 then f_RD F Z d 3 s a (io 0) else f_RD F Z d 0 s (io g) a
def rdQ (F Z d g : Nat) (s : St) (a : Int32) : Option (Option Nat × St) := if g = 6 then f_RD F Z d 1 s a (io 0) else f_RD F Z d 0 s (io g) a
theorem GD.tt {α : Type} {n i : Nat} {r : Option (List α) × Nat} {ok : List α → Nat → Prop} (h : GD n i r ok) : GD n i r (fun _ _ => True) := h.mono (fun _ _ _ => trivial)
theorem RR.sz {α : Type} {T : St → Nat → Nat → List α → Prop} {t : Nat → Nat} {n Z : Nat} {s s' : St} {i : Nat} {r : Option (List α) × Nat} {q' : Option Nat} (h : RR T t n s i r q' s') (hZ : sz s + (n - i) ≤ Z) (hi : i ≤ n) (hr : r.2 ≤ n) : sz s' ≤ Z := by
  have := h.2.2.1
  omega
theorem RDC {F Z n : Nat} (hF : 5000 ≤ F) {t : Nat → Nat} (T : TXT t n) : ∀ d g i a s, (g = 3 ∨ g = 4 ∨ g = 5) → i ≤ n → a ≤ i → RI t n s i → sz s + (n - i) ≤ Z → 4 * (n - i) + (6 - g) ≤ d → ∃ q' s', rdC F Z d g s (io a) = some (q', s') ∧ RR TC t n s i (pC t d g i) q' s' := by
  have hn := T.1
  intro d
  induction d with
  | zero => intro g i a s hg hi ha H hZ hd; omega
  | succ d ih =>
    intro g i a s hg hi ha H hZ hd
    rcases hg with rfl | rfl | rfl
    · show ∃ q' s', f_Reader_readChain (f_RD F Z d) F Z s (io 3) (io a) = some (q', s') ∧ RR TC t n s i (chain t (pC t d 4) (sgc 3) tkC 40 i) q' s'
      refine chain_RR hF TOK_C (by omega) (fun s q l r d c1 c2 sg hsg hn hl hr => ?_) T rfl hi (fun i hi => (pC_gd T d 4 i (by omega) hi).tt) (fun s i' h1 h2 H hZ => ?_) hZ H
      · exact Or.inr (Or.inr ⟨sg, l, r, c1, c2, Or.inr (of_decide_eq_true hsg), rfl, hn, hl, hr⟩)
      · exact ih 4 i' a s (by omega) h2 (by omega) H hZ (by omega)
    · show ∃ q' s', f_Reader_readChain (f_RD F Z d) F Z s (io 4) (io a) = some (q', s') ∧ RR TC t n s i (chain t (pC t d 5) (sgc 4) tkC 40 i) q' s'
      refine chain_RR hF TOK_C (by omega) (fun s q l r d c1 c2 sg hsg hn hl hr => ?_) T rfl hi (fun i hi => (pC_gd T d 5 i (by omega) hi).tt) (fun s i' h1 h2 H hZ => ?_) hZ H
      · exact Or.inr (Or.inr ⟨sg, l, r, c1, c2, Or.inl (of_decide_eq_true hsg), rfl, hn, hl, hr⟩)
      · exact ih 5 i' a s (by omega) h2 (by omega) H hZ (by omega)
    · show ∃ q' s', f_Reader_readTerm (f_RD F Z d) F Z s (io a) = some (q', s') ∧ RR TC t n s i (if t i = 33 then post (tkC 33) (pC t d 5 (i + 1)) else if t i = 40 then clo t (pC t d 3 (i + 1)) else pCmp t i) q' s'
      have ha40 : a ≤ 40 := by omega
      have hh := here_eq (F := F) T H hi
      have ht := tlt (i := i) T
      have e38 := H.1
      have H1 : RI t n (sI s 1538 (io (i + 1))) (i + 1) := H.at
      by_cases h1 : t i = 33
      · rw [if_pos h1]
        have i1 := T.in' h1
        obtain ⟨q', s1, c1, c2⟩ := ih 5 (i + 1) (a + 1) (sI s 1538 (io (i + 1))) (by omega) i1 (by omega) H1 (by show sz s + (n - (i + 1)) ≤ Z; omega) (by omega)
        obtain ⟨g1, g2, g3⟩ := pC_gd T d 5 (i + 1) (by omega) i1
        obtain ⟨q2, s2, b1, b2, b3⟩ := before_RR (F := F) (Z := Z) (k := 33) (s0 := s) (s := sI s 1538 (io (i + 1))) (x := tkC 33) (i := i) TOK_C (fun s q l d c hn hl => Or.inr (Or.inl ⟨l, c, rfl, hn, hl⟩)) g1 g2 rfl FnR.at (by show sz s + (n - i) ≤ Z; exact hZ) (fun c hc => (g3 c hc).1) c2
        refine ⟨q2, s2, ?_, b3⟩
        have hz1 : sz s1 ≤ Z := c2.sz (Z := Z) (by show sz s + (n - (i + 1)) ≤ Z; omega) i1 g2
        have c1' : f_RD F Z d 3 (sI s 1538 (io (i + 1))) (io (a + 1)) (io 0) = some (q', s1) := c1
        simp (disch := omega) only [f_Reader_readTerm, Option.bind_some, Nat.reduceEqDiff, Nat.add_zero, Nat.zero_add, Nat.reduceLT, Nat.reduceLeDiff, Nat.reduceAdd, Nat.reduceSub, Nat.reduceMul, Nat.reduceDiv, Nat.lt_irrefl, Nat.not_lt_zero, Nat.zero_le, Nat.one_ne_zero, Nat.succ_ne_zero,  lt_def, i32_lit, reduceIte, P_isIn_eq, or_false, false_or, or_true, true_or, and_true, true_and, and_false, false_and, not_true, not_false_eq_true, eq_self, if_true, if_false, not_or, not_and, Nat.not_lt, Nat.not_le, io_le, ha40, hh, h1, e38, io_add, c1', hz1, b1, b2]
      · rw [if_neg h1]
        by_cases h2 : t i = 40
        · rw [if_pos h2]
          have i1 := T.in' h2
          obtain ⟨q', s1, c1, c2⟩ := ih 3 (i + 1) (a + 1) (sI s 1538 (io (i + 1))) (by omega) i1 (by omega) H1 (by show sz s + (n - (i + 1)) ≤ Z; omega) (by omega)
          obtain ⟨g1, g2, g3⟩ := pC_gd T d 3 (i + 1) (by omega) i1
          have hz1 : sz s1 ≤ Z := c2.sz (Z := Z) (by show sz s + (n - (i + 1)) ≤ Z; omega) i1 g2
          have c3 : RR TC t n s i (pC t d 3 (i + 1)) q' s1 := ⟨FnR.at.trans c2.1, c2.2.1, by have : sz s1 + (i + 1) ≤ sz s + (pC t d 3 (i + 1)).2 := c2.2.2.1; omega, c2.2.2.2.1, fun c hc => by
            obtain ⟨q, x1, x2⟩ := c2.2.2.2.2 c hc
            exact ⟨q, x1, x2.le (by omega)⟩⟩
          obtain ⟨q2, s2, b1, b2⟩ := closed_RR (F := F) TOK_C T g2 c3
          refine ⟨q2, s2, ?_, b2⟩
          have c1' : f_RD F Z d 0 (sI s 1538 (io (i + 1))) (io 3) (io (a + 1)) = some (q', s1) := c1
          simp (disch := omega) only [f_Reader_readTerm, Option.bind_some, Nat.reduceEqDiff, Nat.add_zero, Nat.zero_add, Nat.reduceLT, Nat.reduceLeDiff, Nat.reduceAdd, Nat.reduceSub, Nat.reduceMul, Nat.reduceDiv, Nat.lt_irrefl, Nat.not_lt_zero, Nat.zero_le, Nat.one_ne_zero, Nat.succ_ne_zero,  lt_def, i32_lit, reduceIte, P_isIn_eq, or_false, false_or, or_true, true_or, and_true, true_and, and_false, false_and, not_true, not_false_eq_true, eq_self, if_true, if_false, not_or, not_and, Nat.not_lt, Nat.not_le, io_le, ha40, hh, h2, io_eq, e38, io_add, c1', hz1, b1]
        · rw [if_neg h2]
          obtain ⟨q', s1, c1, c2⟩ := cmp_RR hF T hi H hZ
          have hz1 : sz s1 ≤ Z := c2.sz hZ hi (cmp_gd T hi).2.1
          refine ⟨q', s1, ?_, c2⟩
          simp (disch := omega) only [f_Reader_readTerm, Option.bind_some, Nat.reduceEqDiff, Nat.add_zero, Nat.zero_add, Nat.reduceLT, Nat.reduceLeDiff, Nat.reduceAdd, Nat.reduceSub, Nat.reduceMul, Nat.reduceDiv, Nat.lt_irrefl, Nat.not_lt_zero, Nat.zero_le, Nat.one_ne_zero, Nat.succ_ne_zero,  lt_def, i32_lit, reduceIte, P_isIn_eq, or_false, false_or, or_true, true_or, and_true, true_and, and_false, false_and, not_true, not_false_eq_true, eq_self, if_true, if_false, not_or, not_and, Nat.not_lt, Nat.not_le, io_le, ha40, hh, h1, h2, io_eq, c1, hz1]
theorem b55_RR {F Z n d i i0 a k f : Nat} (hF : 5000 ≤ F) {t : Nat → Nat} (T : TXT t n) {s0 s : St} {l3 : Option Nat} (hi : i ≤ n) (h0 : i0 + 2 ≤ i) (ha : a ≤ i0) (H : RI t n s i) (hf : FnR s0 s) (hs : sz s + i0 + 2 ≤ sz s0 + i) (hZ : sz s0 + (n - i0) ≤ Z) (hd : 4 * (n - i0) ≤ d + 9) (hk : agc k = true)
    (hfi : (k = 110 ∧ f = 0 ∧ l3 = none) ∨ (k ≠ 110 ∧ fdc f = true ∧ ∃ l', l3 = some l' ∧ nd s l' (io f) (io 0) none none)) :
    ∃ q' s', f_Reader_readAggregate_b55 (f_RD F Z d) F Z s (io a) (io k) l3 = some (q', s') ∧ RR TQ t n s0 i0 (pAg2 t d k f i) q' s' := by
  have hh := here_eq (F := F) T H hi
  have ht := tlt (i := i) T
  have e38 := H.1
  unfold pAg2
  by_cases h : t i = 58
  · rw [if_pos h]
    have i1 := T.in' h
    obtain ⟨q', s1, c1, c2⟩ := RDC (F := F) (Z := Z) hF T d 3 (i + 1) (a + 1) (sI s 1538 (io (i + 1))) (by omega) i1 (by omega) H.at (by show sz s + (n - (i + 1)) ≤ Z; omega) (by omega)
    obtain ⟨g1, g2, g3⟩ := pC_gd T d 3 (i + 1) (by omega) i1
    have c1' : f_RD F Z d 0 (sI s 1538 (io (i + 1))) (io 3) (io (a + 1)) = some (q', s1) := c1
    obtain ⟨d1, d2, d3, d4, d5⟩ := c2
    have d3' : sz s1 + (i + 1) ≤ sz s + (pC t d 3 (i + 1)).2 := d3
    have hz1 : sz s1 ≤ Z := by omega
    unfold ag2E
    cases hr : (pC t d 3 (i + 1)).1 with
    | none =>
      have := d4 hr
      subst this
      refine ⟨none, s1, ?_, hf.trans (FnR.at.trans d1), d2, by show sz s1 + i0 ≤ sz s0 + (pC t d 3 (i + 1)).2; omega, fun _ => rfl, fun c hc => by cases hc⟩
      simp (disch := omega) only [f_Reader_readAggregate_b55, Option.bind_some, Nat.reduceEqDiff, Nat.add_zero, Nat.zero_add, Nat.reduceLT, Nat.reduceLeDiff, Nat.reduceAdd, Nat.reduceSub, Nat.reduceMul, Nat.reduceDiv, Nat.lt_irrefl, Nat.not_lt_zero, Nat.zero_le, Nat.one_ne_zero, Nat.succ_ne_zero,  lt_def, i32_lit, reduceIte, P_isIn_eq, or_false, false_or, or_true, true_or, and_true, true_and, and_false, false_and, not_true, not_false_eq_true, eq_self, if_true, if_false, not_or, not_and, Nat.not_lt, Nat.not_le, hh, h, e38, io_add, c1', hz1]
    | some c =>
      obtain ⟨q, rfl, d6⟩ := d5 c hr
      have gi := (g3 c hr).1
      have hz2 : sz s1 < Z := by omega
      have hne : ¬ some q = none := by simp
      obtain ⟨s2, b1, b2, b3, b4, b5⟩ := node_new (F := F) (s := s1) (k := io k) (n := io 0) (l := l3) (r := some q)
      have fr : FnR s0 s2 := (hf.trans (FnR.at.trans d1)).trans b2
      have H2 : RI t n s2 (pC t d 3 (i + 1)).2 := d2.fr b2 (by rw [b3]; exact d2.1)
      have hT : TQ s2 ((pC t d 3 (i + 1)).2 - i0) (sz s1) [(k, f, some c)] := by
        rw [show (pC t d 3 (i + 1)).2 - i0 = (pC t d 3 (i + 1)).2 - i0 - 1 + 1 by omega]
        exact Or.inr (Or.inr (Or.inr ⟨k, f, some c, l3, some q, rfl, hk, b5, hfi.imp id (fun ⟨x1, x2, l', x3, x4⟩ => ⟨x1, x2, l', x3, x4.nm ((FnR.at.trans d1).trans b2).nm⟩), Or.inr ⟨c, q, rfl, rfl, (TC.nm b2.nm _ _ _ d6).le (by omega)⟩⟩))
      have hR : RR TQ t n s0 i0 (some [(k, f, some c)], (pC t d 3 (i + 1)).2) (some (sz s1)) s2 := ⟨fr, H2, by show sz s2 + i0 ≤ sz s0 + (pC t d 3 (i + 1)).2; omega, (fun h => by cases h), fun c' hc' => by cases hc'; exact ⟨_, rfl, hT⟩⟩
      obtain ⟨q2, s3, e1, e2⟩ := closed_RR (F := F) TOK_Q T g2 hR
      refine ⟨q2, s3, ?_, e2⟩
      simp (disch := omega) only [f_Reader_readAggregate_b55, Option.bind_some, Nat.reduceEqDiff, Nat.add_zero, Nat.zero_add, Nat.reduceLT, Nat.reduceLeDiff, Nat.reduceAdd, Nat.reduceSub, Nat.reduceMul, Nat.reduceDiv, Nat.lt_irrefl, Nat.not_lt_zero, Nat.zero_le, Nat.one_ne_zero, Nat.succ_ne_zero,  lt_def, i32_lit, reduceIte, P_isIn_eq, or_false, false_or, or_true, true_or, and_true, true_and, and_false, false_and, not_true, not_false_eq_true, eq_self, if_true, if_false, not_or, not_and, Nat.not_lt, Nat.not_le, hh, h, e38, io_add, c1', hz1, hne, hz2, z3_eq, node_dgo, Option.bind_some, b1, e1]
  · rw [if_neg h]
    have hz2 : sz s < Z := by omega
    obtain ⟨s2, b1, b2, b3, b4, b5⟩ := node_new (F := F) (s := s) (k := io k) (n := io 0) (l := l3) (r := none)
    have H2 : RI t n s2 i := H.fr b2 (by rw [b3]; exact H.1)
    have hT : TQ s2 (i - i0) (sz s) [(k, f, none)] := by
      rw [show i - i0 = i - i0 - 1 + 1 by omega]
      exact Or.inr (Or.inr (Or.inr ⟨k, f, none, l3, none, rfl, hk, b5, hfi.imp id (fun ⟨x1, x2, l', x3, x4⟩ => ⟨x1, x2, l', x3, x4.nm b2.nm⟩), Or.inl ⟨rfl, rfl⟩⟩))
    have hR : RR TQ t n s0 i0 (some [(k, f, none)], i) (some (sz s)) s2 := ⟨hf.trans b2, H2, by show sz s2 + i0 ≤ sz s0 + i; omega, (fun h => by cases h), fun c' hc' => by cases hc'; exact ⟨_, rfl, hT⟩⟩
    obtain ⟨q2, s3, e1, e2⟩ := closed_RR (F := F) TOK_Q T hi hR
    refine ⟨q2, s3, ?_, e2⟩
    simp (disch := omega) only [f_Reader_readAggregate_b55, Option.bind_some, Nat.reduceEqDiff, Nat.add_zero, Nat.zero_add, Nat.reduceLT, Nat.reduceLeDiff, Nat.reduceAdd, Nat.reduceSub, Nat.reduceMul, Nat.reduceDiv, Nat.lt_irrefl, Nat.not_lt_zero, Nat.zero_le, Nat.one_ne_zero, Nat.succ_ne_zero,  lt_def, i32_lit, reduceIte, P_isIn_eq, or_false, false_or, or_true, true_or, and_true, true_and, and_false, false_and, not_true, not_false_eq_true, eq_self, if_true, if_false, not_or, not_and, Nat.not_lt, Nat.not_le, hh, h, io_eq, hz2, z3_eq, node_dgo, Option.bind_some, b1, e1]
theorem agg_RR {F Z n d i a : Nat} (hF : 5000 ≤ F) {t : Nat → Nat} (T : TXT t n) {s : St} (hk : agc (t i) = true) (ha : a ≤ i) (H : RI t n s i) (hZ : sz s + (n - i) ≤ Z) (hd : 4 * (n - i) ≤ d + 9) :
    ∃ q' s', f_Reader_readAggregate (f_RD F Z d) F Z s (io a) = some (q', s') ∧ RR TQ t n s i (pAg t d i) q' s' := by
  have i1 := T.bin hk
  have hh := here_eq (F := F) T H (by omega)
  have ht := tlt (i := i) T
  have e38 := H.1
  have H1 : RI t n (sI s 1538 (io (i + 1))) (i + 1) := H.at
  have hh1 := here_eq (F := F) T H1 i1
  have ht1 := tlt (i := i + 1) T
  unfold pAg
  by_cases h : t (i + 1) = 40
  · have i2 := T.in' h
    rw [if_pos h]
    have H2 : RI t n (sI (sI s 1538 (io (i + 1))) 1538 (io (i + 2))) (i + 2) := H1.at
    by_cases h2 : t i = 110
    · rw [if_pos h2]
      obtain ⟨q', s', c1, c2⟩ := b55_RR (Z := Z) (d := d) (k := t i) (f := 0) (l3 := none) (i0 := i) (a := a) hF T i2 (by omega) ha H2 (FnR.at.trans FnR.at) (by show sz s + i + 2 ≤ sz s + (i + 2); omega) hZ hd hk (Or.inl ⟨h2, rfl, rfl⟩)
      refine ⟨q', s', ?_, c2⟩
      rw [h2] at c1
      simp (disch := omega) only [f_Reader_readAggregate, Option.bind_some, Nat.reduceEqDiff, Nat.add_zero, Nat.zero_add, Nat.reduceLT, Nat.reduceLeDiff, Nat.reduceAdd, Nat.reduceSub, Nat.reduceMul, Nat.reduceDiv, Nat.lt_irrefl, Nat.not_lt_zero, Nat.zero_le, Nat.one_ne_zero, Nat.succ_ne_zero,  lt_def, i32_lit, reduceIte, P_isIn_eq, or_false, false_or, or_true, true_or, and_true, true_and, and_false, false_and, not_true, not_false_eq_true, eq_self, if_true, if_false, not_or, not_and, Nat.not_lt, Nat.not_le, hh, hh1, h, h2, e38, io_add, gI_sI] at c1 ⊢
      exact c1
    · rw [if_neg h2]
      by_cases h3 : fdc (t (i + 2)) = true
      · rw [if_pos h3]
        obtain ⟨s2, b1, b2, b3, b4, b5⟩ := readField_t (F := F) (Z := Z) T H2 h3 (by show sz s < Z; omega)
        have hz : sz s2 ≤ Z := by rw [b4]; show sz s + 1 ≤ Z; omega
        obtain ⟨q', s', c1, c2⟩ := b55_RR (Z := Z) (d := d) (k := t i) (f := t (i + 2)) (l3 := some (sz s)) (s0 := s) (i0 := i) (a := a) hF T (T.bin h3) (by omega) ha b3 ((FnR.at.trans FnR.at).trans b2) (by rw [b4]; show sz s + 1 + i + 2 ≤ sz s + (i + 2 + 1); omega) hZ hd hk (Or.inr ⟨h2, h3, sz s, rfl, b5⟩)
        refine ⟨q', s', ?_, c2⟩
        have b1' : f_Reader_readField F Z (sI (sI s 1538 (io (i + 1))) 1538 (io (i + 2))) = some (some (sz s), s2) := b1
        have hne : ¬ some (sz s) = none := by simp
        simp (disch := omega) only [f_Reader_readAggregate, Option.bind_some, Nat.reduceEqDiff, Nat.add_zero, Nat.zero_add, Nat.reduceLT, Nat.reduceLeDiff, Nat.reduceAdd, Nat.reduceSub, Nat.reduceMul, Nat.reduceDiv, Nat.lt_irrefl, Nat.not_lt_zero, Nat.zero_le, Nat.one_ne_zero, Nat.succ_ne_zero,  lt_def, i32_lit, reduceIte, P_isIn_eq, or_false, false_or, or_true, true_or, and_true, true_and, and_false, false_and, not_true, not_false_eq_true, eq_self, if_true, if_false, not_or, not_and, Nat.not_lt, Nat.not_le, hh, hh1, h, h2, io_eq, e38, io_add, gI_sI, b1', hz, hne]
        exact c1
      · rw [if_neg h3]
        have b1 := readField_f (F := F) (Z := Z) T i2 H2 h3
        have hz : sz (sI (sI s 1538 (io (i + 1))) 1538 (io (i + 2))) ≤ Z := by show sz s ≤ Z; omega
        refine ⟨none, _, ?_, FnR.at.trans FnR.at, H2, by show sz s + i ≤ sz s + (i + 2); omega, fun _ => rfl, fun c hc => by cases hc⟩
        simp (disch := omega) only [f_Reader_readAggregate, Option.bind_some, Nat.reduceEqDiff, Nat.add_zero, Nat.zero_add, Nat.reduceLT, Nat.reduceLeDiff, Nat.reduceAdd, Nat.reduceSub, Nat.reduceMul, Nat.reduceDiv, Nat.lt_irrefl, Nat.not_lt_zero, Nat.zero_le, Nat.one_ne_zero, Nat.succ_ne_zero,  lt_def, i32_lit, reduceIte, P_isIn_eq, or_false, false_or, or_true, true_or, and_true, true_and, and_false, false_and, not_true, not_false_eq_true, eq_self, if_true, if_false, not_or, not_and, Nat.not_lt, Nat.not_le, hh, hh1, h, h2, io_eq, e38, io_add, gI_sI, b1, hz]
  · rw [if_neg h]
    refine ⟨none, sI s 1538 (io (i + 1)), ?_, FnR.at, H1, by show sz s + i ≤ sz s + (i + 1); omega, fun _ => rfl, fun c hc => by cases hc⟩
    simp (disch := omega) only [f_Reader_readAggregate, Option.bind_some, Nat.reduceEqDiff, Nat.add_zero, Nat.zero_add, Nat.reduceLT, Nat.reduceLeDiff, Nat.reduceAdd, Nat.reduceSub, Nat.reduceMul, Nat.reduceDiv, Nat.lt_irrefl, Nat.not_lt_zero, Nat.zero_le, Nat.one_ne_zero, Nat.succ_ne_zero,  lt_def, i32_lit, reduceIte, P_isIn_eq, or_false, false_or, or_true, true_or, and_true, true_and, and_false, false_and, not_true, not_false_eq_true, eq_self, if_true, if_false, not_or, not_and, Nat.not_lt, Nat.not_le, hh, hh1, h, io_eq, e38, io_add]
theorem RDQ {F Z n : Nat} (hF : 5000 ≤ F) {t : Nat → Nat} (T : TXT t n) : ∀ d g i a s, (g = 0 ∨ g = 1 ∨ g = 2 ∨ g = 6) → i ≤ n → a ≤ i → RI t n s i → sz s + (n - i) ≤ Z → 4 * (n - i) + (if g = 6 then 1 else 4 - g) ≤ d → ∃ q' s', rdQ F Z d g s (io a) = some (q', s') ∧ RR TQ t n s i (pQ t d g i) q' s' := by
  have hn := T.1
  intro d
  induction d with
  | zero => intro g i a s hg hi ha H hZ hd; exfalso; rcases hg with rfl | rfl | rfl | rfl <;> simp at hd
  | succ d ih =>
    intro g i a s hg hi ha H hZ hd
    rcases hg with rfl | rfl | rfl | rfl
    · have hd' : 4 * (n - i) + 4 ≤ d + 1 := hd
      show ∃ q' s', f_Reader_readChain (f_RD F Z d) F Z s (io 0) (io a) = some (q', s') ∧ RR TQ t n s i (chain t (pQ t d 1) (sgc 0) tkQ 1 i) q' s'
      refine chain_RR hF TOK_Q (by omega) (fun s q l r d c1 c2 sg hsg hn hl hr => ?_) T rfl hi (fun i hi => (pQ_gd T d 1 i (by omega) hi).tt) (fun s i' h1 h2 H hZ => ?_) hZ H
      · exact Or.inr (Or.inr (Or.inl ⟨sg, l, r, c1, c2, qop_of hsg (by omega), rfl, hn, hl, hr⟩))
      · exact ih 1 i' a s (by omega) h2 (by omega) H hZ (by show 4 * (n - i') + 3 ≤ d; omega)
    · have hd' : 4 * (n - i) + 3 ≤ d + 1 := hd
      show ∃ q' s', f_Reader_readChain (f_RD F Z d) F Z s (io 1) (io a) = some (q', s') ∧ RR TQ t n s i (chain t (pQ t d 2) (sgc 1) tkQ 40 i) q' s'
      refine chain_RR hF TOK_Q (by omega) (fun s q l r d c1 c2 sg hsg hn hl hr => ?_) T rfl hi (fun i hi => (pQ_gd T d 2 i (by omega) hi).tt) (fun s i' h1 h2 H hZ => ?_) hZ H
      · exact Or.inr (Or.inr (Or.inl ⟨sg, l, r, c1, c2, qop_of hsg (by omega), rfl, hn, hl, hr⟩))
      · exact ih 2 i' a s (by omega) h2 (by omega) H hZ (by show 4 * (n - i') + 2 ≤ d; omega)
    · have hd' : 4 * (n - i) + 2 ≤ d + 1 := hd
      show ∃ q' s', f_Reader_readChain (f_RD F Z d) F Z s (io 2) (io a) = some (q', s') ∧ RR TQ t n s i (chain t (pQ t d 6) (sgc 2) tkQ 40 i) q' s'
      refine chain_RR hF TOK_Q (by omega) (fun s q l r d c1 c2 sg hsg hn hl hr => ?_) T rfl hi (fun i hi => (pQ_gd T d 6 i (by omega) hi).tt) (fun s i' h1 h2 H hZ => ?_) hZ H
      · exact Or.inr (Or.inr (Or.inl ⟨sg, l, r, c1, c2, qop_of hsg (by omega), rfl, hn, hl, hr⟩))
      · exact ih 6 i' a s (by omega) h2 (by omega) H hZ (by show 4 * (n - i') + 1 ≤ d; omega)
    · have hd' : 4 * (n - i) + 1 ≤ d + 1 := hd
      show ∃ q' s', f_Reader_readUnit (f_RD F Z d) F Z s (io a) = some (q', s') ∧ RR TQ t n s i (if t i = 45 then post (tkQ 126) (pQ t d 6 (i + 1)) else if t i = 40 then clo t (pQ t d 0 (i + 1)) else if agc (t i) = true then pAg t (d - 1) i else numE (pNum t i)) q' s'
      have ha40 : a ≤ 40 := by omega
      have hh := here_eq (F := F) T H hi
      have ht := tlt (i := i) T
      have e38 := H.1
      have H1 : RI t n (sI s 1538 (io (i + 1))) (i + 1) := H.at
      have hga := isAgg_eq (F := F) (s := s) ht
      by_cases h1 : t i = 45
      · rw [if_pos h1]
        have i1 := T.in' h1
        obtain ⟨q', s1, c1, c2⟩ := ih 6 (i + 1) (a + 1) (sI s 1538 (io (i + 1))) (by omega) i1 (by omega) H1 (by show sz s + (n - (i + 1)) ≤ Z; omega) (by show 4 * (n - (i + 1)) + 1 ≤ d; omega)
        obtain ⟨g1, g2, g3⟩ := pQ_gd T d 6 (i + 1) (by omega) i1
        obtain ⟨q2, s2, b1, b2, b3⟩ := before_RR (F := F) (Z := Z) (k := 126) (s0 := s) (s := sI s 1538 (io (i + 1))) (x := tkQ 126) (i := i) TOK_Q (fun s q l d c hn hl => Or.inr (Or.inl ⟨l, c, rfl, hn, hl⟩)) g1 g2 rfl FnR.at (by show sz s + (n - i) ≤ Z; exact hZ) (fun c hc => (g3 c hc).1) c2
        refine ⟨q2, s2, ?_, b3⟩
        have hz1 : sz s1 ≤ Z := c2.sz (Z := Z) (by show sz s + (n - (i + 1)) ≤ Z; omega) i1 g2
        have c1' : f_RD F Z d 1 (sI s 1538 (io (i + 1))) (io (a + 1)) (io 0) = some (q', s1) := c1
        simp (disch := omega) only [f_Reader_readUnit, Option.bind_some, Nat.reduceEqDiff, Nat.add_zero, Nat.zero_add, Nat.reduceLT, Nat.reduceLeDiff, Nat.reduceAdd, Nat.reduceSub, Nat.reduceMul, Nat.reduceDiv, Nat.lt_irrefl, Nat.not_lt_zero, Nat.zero_le, Nat.one_ne_zero, Nat.succ_ne_zero,  lt_def, i32_lit, reduceIte, P_isIn_eq, or_false, false_or, or_true, true_or, and_true, true_and, and_false, false_and, not_true, not_false_eq_true, eq_self, if_true, if_false, not_or, not_and, Nat.not_lt, Nat.not_le, io_le, ha40, hh, h1, e38, io_add, c1', hz1, b1, b2]
      · rw [if_neg h1]
        by_cases h2 : t i = 40
        · rw [if_pos h2]
          have i1 := T.in' h2
          obtain ⟨q', s1, c1, c2⟩ := ih 0 (i + 1) (a + 1) (sI s 1538 (io (i + 1))) (by omega) i1 (by omega) H1 (by show sz s + (n - (i + 1)) ≤ Z; omega) (by show 4 * (n - (i + 1)) + 4 ≤ d; omega)
          obtain ⟨g1, g2, g3⟩ := pQ_gd T d 0 (i + 1) (by omega) i1
          have hz1 : sz s1 ≤ Z := c2.sz (Z := Z) (by show sz s + (n - (i + 1)) ≤ Z; omega) i1 g2
          have c3 : RR TQ t n s i (pQ t d 0 (i + 1)) q' s1 := ⟨FnR.at.trans c2.1, c2.2.1, by have : sz s1 + (i + 1) ≤ sz s + (pQ t d 0 (i + 1)).2 := c2.2.2.1; omega, c2.2.2.2.1, fun c hc => by
            obtain ⟨q, x1, x2⟩ := c2.2.2.2.2 c hc
            exact ⟨q, x1, x2.le (by omega)⟩⟩
          obtain ⟨q2, s2, b1, b2⟩ := closed_RR (F := F) TOK_Q T g2 c3
          refine ⟨q2, s2, ?_, b2⟩
          have c1' : f_RD F Z d 0 (sI s 1538 (io (i + 1))) (io 0) (io (a + 1)) = some (q', s1) := c1
          simp (disch := omega) only [f_Reader_readUnit, Option.bind_some, Nat.reduceEqDiff, Nat.add_zero, Nat.zero_add, Nat.reduceLT, Nat.reduceLeDiff, Nat.reduceAdd, Nat.reduceSub, Nat.reduceMul, Nat.reduceDiv, Nat.lt_irrefl, Nat.not_lt_zero, Nat.zero_le, Nat.one_ne_zero, Nat.succ_ne_zero,  lt_def, i32_lit, reduceIte, P_isIn_eq, or_false, false_or, or_true, true_or, and_true, true_and, and_false, false_and, not_true, not_false_eq_true, eq_self, if_true, if_false, not_or, not_and, Nat.not_lt, Nat.not_le, io_le, ha40, hh, h2, io_eq, e38, io_add, c1', hz1, b1]
        · rw [if_neg h2]
          by_cases h3 : agc (t i) = true
          · rw [if_pos h3] at hga ⊢
            obtain ⟨d, rfl⟩ : ∃ d', d = d' + 1 := ⟨d - 1, by have := T.bin h3; omega⟩
            obtain ⟨q', s1, c1, c2⟩ := agg_RR (F := F) (Z := Z) (d := d) hF T h3 ha H hZ (by omega)
            have hz1 : sz s1 ≤ Z := c2.sz hZ hi (ag_gd T h3).2.1
            have c1' : f_RD F Z (d + 1) 2 s (io a) (io 0) = some (q', s1) := c1
            refine ⟨q', s1, ?_, c2⟩
            simp (disch := omega) only [f_Reader_readUnit, Option.bind_some, Nat.reduceEqDiff, Nat.add_zero, Nat.zero_add, Nat.reduceLT, Nat.reduceLeDiff, Nat.reduceAdd, Nat.reduceSub, Nat.reduceMul, Nat.reduceDiv, Nat.lt_irrefl, Nat.not_lt_zero, Nat.zero_le, Nat.one_ne_zero, Nat.succ_ne_zero,  lt_def, i32_lit, reduceIte, P_isIn_eq, or_false, false_or, or_true, true_or, and_true, true_and, and_false, false_and, not_true, not_false_eq_true, eq_self, if_true, if_false, not_or, not_and, Nat.not_lt, Nat.not_le, io_le, ha40, hh, h1, h2, io_eq, hga, c1', hz1]
          · rw [if_neg h3] at hga ⊢
            obtain ⟨q', s1, c1, c2, c3, c4⟩ := readNumber_eq hF T hi H hZ
            obtain ⟨g1, g2, g3⟩ := num_gd T hi
            unfold numE
            rcases c4 with ⟨x1, x2, x3⟩ | ⟨v, x1, x2, x3, x4, x5⟩
            · have hz1 : sz s1 ≤ Z := by omega
              rw [x1]
              refine ⟨q', s1, ?_, c2, c3, by show sz s1 + i ≤ sz s + (pNum t i).2; omega, fun _ => x2, fun c hc => by cases hc⟩
              simp (disch := omega) only [f_Reader_readUnit, Option.bind_some, Nat.reduceEqDiff, Nat.add_zero, Nat.zero_add, Nat.reduceLT, Nat.reduceLeDiff, Nat.reduceAdd, Nat.reduceSub, Nat.reduceMul, Nat.reduceDiv, Nat.lt_irrefl, Nat.not_lt_zero, Nat.zero_le, Nat.one_ne_zero, Nat.succ_ne_zero,  lt_def, i32_lit, reduceIte, P_isIn_eq, or_false, false_or, or_true, true_or, and_true, true_and, and_false, false_and, not_true, not_false_eq_true, eq_self, if_true, if_false, not_or, not_and, Nat.not_lt, Nat.not_le, io_le, ha40, hh, h1, h2, io_eq, hga, c1, hz1]
            · have := (g3 v x1).1
              have hz1 : sz s1 ≤ Z := by omega
              rw [x1]
              refine ⟨q', s1, ?_, c2, c3, by show sz s1 + i ≤ sz s + (pNum t i).2; omega, (fun h => by cases h), fun c hc => ?_⟩
              · simp (disch := omega) only [f_Reader_readUnit, Option.bind_some, Nat.reduceEqDiff, Nat.add_zero, Nat.zero_add, Nat.reduceLT, Nat.reduceLeDiff, Nat.reduceAdd, Nat.reduceSub, Nat.reduceMul, Nat.reduceDiv, Nat.lt_irrefl, Nat.not_lt_zero, Nat.zero_le, Nat.one_ne_zero, Nat.succ_ne_zero,  lt_def, i32_lit, reduceIte, P_isIn_eq, or_false, false_or, or_true, true_or, and_true, true_and, and_false, false_and, not_true, not_false_eq_true, eq_self, if_true, if_false, not_or, not_and, Nat.not_lt, Nat.not_le, io_le, ha40, hh, h1, h2, io_eq, hga, c1, hz1]
              · cases hc
                refine ⟨sz s, x2, ?_⟩
                show TQ s1 ((pNum t i).2 - i) (sz s) [(35, v, none)]
                rw [show (pNum t i).2 - i = (pNum t i).2 - i - 1 + 1 by omega]
                exact Or.inl ⟨v, rfl, x4, x5⟩
/-! a text is read -/
def perr (t : Nat → Nat) : Nat := (pQ t 200 0 0).2
def ques (t : Nat → Nat) (n : Nat) : Option (List QT) := if n ≤ perr t then (pQ t 200 0 0).1 else none
/-- all but the reader's two numbers and new cells is as it was -/
def Fw (s s' : St) : Prop := (∀ k, k ≠ 1537 → k ≠ 1538 → gI s' k = gI s k) ∧ gA s' = gA s ∧ gL s' = gL s ∧ gJ s' = gJ s ∧ gQ s' = gQ s ∧ sz s ≤ sz s' ∧ ∀ q, q < sz s → gD s' q = gD s q
theorem perr_le {t : Nat → Nat} {n : Nat} (T : TXT t n) : perr t ≤ n := (pQ_gd T 200 0 0 (Or.inl rfl) (Nat.zero_le _)).2.1
theorem ques_ok {t : Nat → Nat} {n : Nat} {c : List QT} (T : TXT t n) (h : ques t n = some c) : okQ c ∧ c.length ≤ n ∧ (pQ t 200 0 0).1 = some c ∧ perr t = n ∧ 0 < n := by
  unfold ques at h
  by_cases h1 : n ≤ perr t
  · rw [if_pos h1] at h
    have g := pQ_gd T 200 0 0 (Or.inl rfl) (Nat.zero_le _)
    have g3 := g.2.2 c h
    have e : perr t = n := Nat.le_antisymm (perr_le T) h1
    unfold perr at e
    refine ⟨g3.2.2.1, by have := g3.2.1; omega, h, e, by have := g3.1; omega⟩
  · rw [if_neg h1] at h; cases h
theorem read_eq {F Z n : Nat} (hF : 5000 ≤ F) {t : Nat → Nat} {s : St} (T : TXT t n) (hx : ∀ k, k < n → gA s 1 k = io (t k)) (hZ : sz s + n ≤ Z) : ∃ q' s', f_Reader_read F Z s (io n) = some (q', s') ∧ Fw s s' ∧ gI s' 1538 = io (perr t) ∧ sz s' ≤ sz s + n ∧ (ques t n = none → q' = none) ∧ ∀ c, ques t n = some c → ∃ q, q' = some q ∧ TQ s' n q c := by
  have hn := T.1
  have H : RI t n (sI (sI (sR s 1536 (some 1)) 1537 (io n)) 1538 (io 0)) 0 := ⟨rfl, rfl, rfl, hx⟩
  obtain ⟨q', s', c1, c2, c3, c4, c5, c6⟩ := RDQ (F := F) (Z := Z) hF T 200 0 0 0 _ (Or.inl rfl) (Nat.zero_le _) (Nat.le_refl _) H (by show sz s + (n - 0) ≤ Z; omega) (by show 4 * (n - 0) + 4 ≤ 200; omega)
  have c1' : f_RD F Z 200 0 (sI (sI (sR s 1536 (some 1)) 1537 (io n)) 1538 (io 0)) (io 0) (io 0) = some (q', s') := c1
  have c4' : sz s' + 0 ≤ sz s + perr t := c4
  have hp := perr_le T
  have hz : sz s' ≤ Z := by omega
  have e7 : gI s' 1537 = io n := c3.2.1
  have e8 : gI s' 1538 = io (perr t) := c3.1
  have fv : Fw s s' := ⟨fun k h1 h2 => by rw [c2.1 k h2, gI_sI, if_neg h2, gI_sI, if_neg h1]; rfl, c2.2.1, c2.2.2.1, c2.2.2.2.1, c2.2.2.2.2.1, c2.2.2.2.2.2.2.1, c2.2.2.2.2.2.2.2⟩
  unfold ques
  by_cases h : n ≤ perr t
  · rw [if_pos h]
    refine ⟨q', s', ?_, fv, e8, by omega, c5, fun c hc => ?_⟩
    · simp (disch := omega) only [f_Reader_read, f_Reader_readChain_t, Option.bind_some, Nat.reduceEqDiff, Nat.add_zero, Nat.zero_add, Nat.reduceLT, Nat.reduceLeDiff, Nat.reduceAdd, Nat.reduceSub, Nat.reduceMul, Nat.reduceDiv, Nat.lt_irrefl, Nat.not_lt_zero, Nat.zero_le, Nat.one_ne_zero, Nat.succ_ne_zero,  lt_def, i32_lit, reduceIte, P_isIn_eq, or_false, false_or, or_true, true_or, and_true, true_and, and_false, false_and, not_true, not_false_eq_true, eq_self, if_true, if_false, not_or, not_and, Nat.not_lt, Nat.not_le, c1', hz, e7, e8, io_le, h]
    · obtain ⟨q, x1, x2⟩ := c6 c hc
      exact ⟨q, x1, x2.le (by show perr t - 0 ≤ n; omega)⟩
  · rw [if_neg h]
    refine ⟨none, s', ?_, fv, e8, by omega, fun _ => rfl, fun c hc => by cases hc⟩
    simp (disch := omega) only [f_Reader_read, f_Reader_readChain_t, Option.bind_some, Nat.reduceEqDiff, Nat.add_zero, Nat.zero_add, Nat.reduceLT, Nat.reduceLeDiff, Nat.reduceAdd, Nat.reduceSub, Nat.reduceMul, Nat.reduceDiv, Nat.lt_irrefl, Nat.not_lt_zero, Nat.zero_le, Nat.one_ne_zero, Nat.succ_ne_zero,  lt_def, i32_lit, reduceIte, P_isIn_eq, or_false, false_or, or_true, true_or, and_true, true_and, and_false, false_and, not_true, not_false_eq_true, eq_self, if_true, if_false, not_or, not_and, Nat.not_lt, Nat.not_le, c1', hz, e7, e8, io_le, h]

/-! what a row of codes says -/
def b64 (b : Bool) : Int64 := if b = true then 1 else 0
def sgn (b v : Nat) : Int64 := if b = 1 then -(io v).toInt64 else (io v).toInt64
def cmpv (sg : Nat) (x y : Int64) : Bool := if sg = 60 then decide (x < y) else if sg = 62 then decide (y < x) else decide (x = y)
def stC (r : Rec) (x : CT) (st : List Bool) : List Bool := if cmc x.1 = true then cmpv x.1 (fld x.2.1 r).toInt64 (sgn x.2.2.2 x.2.2.1) :: st
  else if x.1 = 33 then (match st with | a :: q => (!a) :: q | [] => []) else (match st with | b :: a :: q => (if x.1 = 38 then a && b else a || b) :: q | _ => [])
def runC (r : Rec) (c : List CT) (st : List Bool) : List Bool := c.foldl (fun st x => stC r x st) st
def valC (r : Rec) (c : List CT) : Bool := (runC r c []).headD false
def chB (ch : Option (List CT)) (r : Rec) : Bool := match ch with
  | none => true
  | some c => valC r c
def aggv (e : List Rec) (k f : Nat) (ch : Option (List CT)) : Int64 := vag k ((e.filter (chB ch)).map (fld f))
def cmb (sg : Nat) (x y : Int64) : Int64 := if sg = 42 then x * y else if sg = 43 then x + y else if sg = 45 then x - y else if sg = 47 then (if y = 0 then 0 else x / y) else b64 (cmpv sg x y)
def stQ (e : List Rec) (x : QT) (st : List Int64) : List Int64 := if x.1 = 35 then (io x.2.1).toInt64 :: st else if agc x.1 = true then aggv e x.1 x.2.1 x.2.2 :: st
  else if x.1 = 126 then (match st with | a :: q => (-a) :: q | [] => []) else (match st with | b :: a :: q => cmb x.1 a b :: q | _ => [])
def runQ (e : List Rec) (c : List QT) (st : List Int64) : List Int64 := c.foldl (fun st x => stQ e x st) st
def valQ (e : List Rec) (c : List QT) : Int64 := (runQ e c []).headD 0
theorem runC_app {r : Rec} {a b : List CT} {st : List Bool} : runC r (a ++ b) st = runC r b (runC r a st) := List.foldl_append
theorem runQ_app {e : List Rec} {a b : List QT} {st : List Int64} : runQ e (a ++ b) st = runQ e b (runQ e a st) := List.foldl_append
theorem valC_of {r : Rec} {c : List CT} {b : Bool} (h : ∀ st, runC r c st = b :: st) : valC r c = b := by unfold valC; rw [h]; rfl
theorem valQ_of {e : List Rec} {c : List QT} {v : Int64} (h : ∀ st, runQ e c st = v :: st) : valQ e c = v := by unfold valQ; rw [h]; rfl
theorem i64_nle {x y : Int64} : (¬ x ≤ y) = (y < x) := by rw [Int64.lt_iff_toInt_lt, Int64.le_iff_toInt_le]; simp
theorem comb_Q {F sg : Nat} {s : St} {x y : Int64} (h : qop sg) : f_P_combined F s (io sg) x y = some (cmb sg x y, s) := by
  unfold cmb cmpv b64
  rcases h with rfl | rfl | rfl | rfl | rfl | rfl | rfl
  · simp (disch := omega) only [f_P_combined, Option.bind_some, Nat.reduceEqDiff, Nat.add_zero, Nat.zero_add, Nat.reduceLT, Nat.reduceLeDiff, Nat.reduceAdd, Nat.reduceSub, Nat.reduceMul, Nat.reduceDiv, Nat.lt_irrefl, Nat.not_lt_zero, Nat.zero_le, Nat.one_ne_zero, Nat.succ_ne_zero,  lt_def, i32_lit, reduceIte, P_isIn_eq, or_false, false_or, or_true, true_or, and_true, true_and, and_false, false_and, not_true, not_false_eq_true, eq_self, if_true, if_false, not_or, not_and, Nat.not_lt, Nat.not_le, io_eq]
  · simp (disch := omega) only [f_P_combined, Option.bind_some, Nat.reduceEqDiff, Nat.add_zero, Nat.zero_add, Nat.reduceLT, Nat.reduceLeDiff, Nat.reduceAdd, Nat.reduceSub, Nat.reduceMul, Nat.reduceDiv, Nat.lt_irrefl, Nat.not_lt_zero, Nat.zero_le, Nat.one_ne_zero, Nat.succ_ne_zero,  lt_def, i32_lit, reduceIte, P_isIn_eq, or_false, false_or, or_true, true_or, and_true, true_and, and_false, false_and, not_true, not_false_eq_true, eq_self, if_true, if_false, not_or, not_and, Nat.not_lt, Nat.not_le, io_eq]
  · simp (disch := omega) only [f_P_combined, Option.bind_some, Nat.reduceEqDiff, Nat.add_zero, Nat.zero_add, Nat.reduceLT, Nat.reduceLeDiff, Nat.reduceAdd, Nat.reduceSub, Nat.reduceMul, Nat.reduceDiv, Nat.lt_irrefl, Nat.not_lt_zero, Nat.zero_le, Nat.one_ne_zero, Nat.succ_ne_zero,  lt_def, i32_lit, reduceIte, P_isIn_eq, or_false, false_or, or_true, true_or, and_true, true_and, and_false, false_and, not_true, not_false_eq_true, eq_self, if_true, if_false, not_or, not_and, Nat.not_lt, Nat.not_le, io_eq]
  · by_cases h0 : y = 0
    · simp (disch := omega) only [f_P_combined, Option.bind_some, Nat.reduceEqDiff, Nat.add_zero, Nat.zero_add, Nat.reduceLT, Nat.reduceLeDiff, Nat.reduceAdd, Nat.reduceSub, Nat.reduceMul, Nat.reduceDiv, Nat.lt_irrefl, Nat.not_lt_zero, Nat.zero_le, Nat.one_ne_zero, Nat.succ_ne_zero,  lt_def, i32_lit, reduceIte, P_isIn_eq, or_false, false_or, or_true, true_or, and_true, true_and, and_false, false_and, not_true, not_false_eq_true, eq_self, if_true, if_false, not_or, not_and, Nat.not_lt, Nat.not_le, io_eq, h0]
    · simp (disch := omega) only [f_P_combined, Option.bind_some, Nat.reduceEqDiff, Nat.add_zero, Nat.zero_add, Nat.reduceLT, Nat.reduceLeDiff, Nat.reduceAdd, Nat.reduceSub, Nat.reduceMul, Nat.reduceDiv, Nat.lt_irrefl, Nat.not_lt_zero, Nat.zero_le, Nat.one_ne_zero, Nat.succ_ne_zero,  lt_def, i32_lit, reduceIte, P_isIn_eq, or_false, false_or, or_true, true_or, and_true, true_and, and_false, false_and, not_true, not_false_eq_true, eq_self, if_true, if_false, not_or, not_and, Nat.not_lt, Nat.not_le, io_eq, h0]
  · by_cases h0 : y ≤ x
    · have h1 : ¬ x < y := by rw [← i64_nle]; exact fun h => h h0
      simp (disch := omega) only [f_P_combined, Option.bind_some, Nat.reduceEqDiff, Nat.add_zero, Nat.zero_add, Nat.reduceLT, Nat.reduceLeDiff, Nat.reduceAdd, Nat.reduceSub, Nat.reduceMul, Nat.reduceDiv, Nat.lt_irrefl, Nat.not_lt_zero, Nat.zero_le, Nat.one_ne_zero, Nat.succ_ne_zero,  lt_def, i32_lit, reduceIte, P_isIn_eq, or_false, false_or, or_true, true_or, and_true, true_and, and_false, false_and, not_true, not_false_eq_true, eq_self, if_true, if_false, not_or, not_and, Nat.not_lt, Nat.not_le, io_eq, h0, h1, decide_false, Bool.false_eq_true]
    · have h1 : x < y := by rw [← i64_nle]; exact h0
      simp (disch := omega) only [f_P_combined, Option.bind_some, Nat.reduceEqDiff, Nat.add_zero, Nat.zero_add, Nat.reduceLT, Nat.reduceLeDiff, Nat.reduceAdd, Nat.reduceSub, Nat.reduceMul, Nat.reduceDiv, Nat.lt_irrefl, Nat.not_lt_zero, Nat.zero_le, Nat.one_ne_zero, Nat.succ_ne_zero,  lt_def, i32_lit, reduceIte, P_isIn_eq, or_false, false_or, or_true, true_or, and_true, true_and, and_false, false_and, not_true, not_false_eq_true, eq_self, if_true, if_false, not_or, not_and, Nat.not_lt, Nat.not_le, io_eq, h0, h1, decide_true]
  · by_cases h0 : x = y
    · simp (disch := omega) only [f_P_combined, Option.bind_some, Nat.reduceEqDiff, Nat.add_zero, Nat.zero_add, Nat.reduceLT, Nat.reduceLeDiff, Nat.reduceAdd, Nat.reduceSub, Nat.reduceMul, Nat.reduceDiv, Nat.lt_irrefl, Nat.not_lt_zero, Nat.zero_le, Nat.one_ne_zero, Nat.succ_ne_zero,  lt_def, i32_lit, reduceIte, P_isIn_eq, or_false, false_or, or_true, true_or, and_true, true_and, and_false, false_and, not_true, not_false_eq_true, eq_self, if_true, if_false, not_or, not_and, Nat.not_lt, Nat.not_le, io_eq, h0, decide_true]
    · simp (disch := omega) only [f_P_combined, Option.bind_some, Nat.reduceEqDiff, Nat.add_zero, Nat.zero_add, Nat.reduceLT, Nat.reduceLeDiff, Nat.reduceAdd, Nat.reduceSub, Nat.reduceMul, Nat.reduceDiv, Nat.lt_irrefl, Nat.not_lt_zero, Nat.zero_le, Nat.one_ne_zero, Nat.succ_ne_zero,  lt_def, i32_lit, reduceIte, P_isIn_eq, or_false, false_or, or_true, true_or, and_true, true_and, and_false, false_and, not_true, not_false_eq_true, eq_self, if_true, if_false, not_or, not_and, Nat.not_lt, Nat.not_le, io_eq, h0, decide_false, Bool.false_eq_true]
  · by_cases h0 : x ≤ y
    · have h1 : ¬ y < x := by rw [← i64_nle]; exact fun h => h h0
      simp (disch := omega) only [f_P_combined, Option.bind_some, Nat.reduceEqDiff, Nat.add_zero, Nat.zero_add, Nat.reduceLT, Nat.reduceLeDiff, Nat.reduceAdd, Nat.reduceSub, Nat.reduceMul, Nat.reduceDiv, Nat.lt_irrefl, Nat.not_lt_zero, Nat.zero_le, Nat.one_ne_zero, Nat.succ_ne_zero,  lt_def, i32_lit, reduceIte, P_isIn_eq, or_false, false_or, or_true, true_or, and_true, true_and, and_false, false_and, not_true, not_false_eq_true, eq_self, if_true, if_false, not_or, not_and, Nat.not_lt, Nat.not_le, io_eq, h0, h1, decide_false, Bool.false_eq_true]
    · have h1 : y < x := by rw [← i64_nle]; exact h0
      simp (disch := omega) only [f_P_combined, Option.bind_some, Nat.reduceEqDiff, Nat.add_zero, Nat.zero_add, Nat.reduceLT, Nat.reduceLeDiff, Nat.reduceAdd, Nat.reduceSub, Nat.reduceMul, Nat.reduceDiv, Nat.lt_irrefl, Nat.not_lt_zero, Nat.zero_le, Nat.one_ne_zero, Nat.succ_ne_zero,  lt_def, i32_lit, reduceIte, P_isIn_eq, or_false, false_or, or_true, true_or, and_true, true_and, and_false, false_and, not_true, not_false_eq_true, eq_self, if_true, if_false, not_or, not_and, Nat.not_lt, Nat.not_le, io_eq, h0, h1, decide_true]
theorem comb_C {F sg : Nat} {s : St} {x y : Int64} (h : cmc sg = true) : f_P_combined F s (io sg) x y = some (b64 (cmpv sg x y), s) := by
  have h' : sg = 60 ∨ sg = 62 ∨ sg = 61 := of_decide_eq_true h
  have h2 : qop sg := by unfold qop; omega
  rw [comb_Q h2]
  unfold cmb
  rw [if_neg (by omega), if_neg (by omega), if_neg (by omega), if_neg (by omega)]
theorem b64_0 {b : Bool} : (b64 b = 0) = (b = false) := by cases b <;> simp [b64]
theorem comb_B {F sg : Nat} {s : St} {a b : Bool} (h : sg = 38 ∨ sg = 124) : f_P_combined F s (io sg) (b64 a) (b64 b) = some (b64 (if sg = 38 then a && b else a || b), s) := by
  rcases h with rfl | rfl <;> cases a <;> cases b <;> simp (disch := omega) only [f_P_combined, Option.bind_some, Nat.reduceEqDiff, Nat.add_zero, Nat.zero_add, Nat.reduceLT, Nat.reduceLeDiff, Nat.reduceAdd, Nat.reduceSub, Nat.reduceMul, Nat.reduceDiv, Nat.lt_irrefl, Nat.not_lt_zero, Nat.zero_le, Nat.one_ne_zero, Nat.succ_ne_zero,  lt_def, i32_lit, reduceIte, P_isIn_eq, or_false, false_or, or_true, true_or, and_true, true_and, and_false, false_and, not_true, not_false_eq_true, eq_self, if_true, if_false, not_or, not_and, Nat.not_lt, Nat.not_le, io_eq, b64_0, Bool.true_eq_false, Bool.false_eq_true, Bool.and_true, Bool.and_false, Bool.or_true, Bool.or_false] <;> rfl
/-! the walker -/
theorem nd.dg {s : St} {q : Nat} {k n : Int32} {l r : Option Nat} (h : nd s q k n l r) : ∃ o, dgo s (some q) 3 = some (q, o) ∧ o.1 0 = k ∧ o.1 1 = n ∧ o.2.1 2 = l ∧ o.2.1 3 = r := by
  obtain ⟨-, o, h2, h3⟩ := h
  exact ⟨o, dgo_at h2, h3⟩
theorem WK_num {F fu q v dep : Nat} {s : St} {lg : Int32} (hd : dep ≤ 40) (h : nd s q (io 35) (io v) none none) : f_WK F (fu + 1) 0 s (some q) lg (io dep) = some ((io v).toInt64, s) := by
  obtain ⟨o, h1, h2, h3, -, -⟩ := h.dg
  show f_Walker_valueOf (f_WK F fu) F s (some q) lg (io dep) = _
  have hf := isField_eq (F := F) (s := s) (show 35 < 1000 by omega)
  have hg := isAgg_eq (F := F) (s := s) (show 35 < 1000 by omega)
  rw [if_neg (by decide)] at hf hg
  have hne : ¬ some q = none := by simp
  simp (disch := omega) only [f_Walker_valueOf, Option.bind_some, Nat.reduceEqDiff, Nat.add_zero, Nat.zero_add, Nat.reduceLT, Nat.reduceLeDiff, Nat.reduceAdd, Nat.reduceSub, Nat.reduceMul, Nat.reduceDiv, Nat.lt_irrefl, Nat.not_lt_zero, Nat.zero_le, Nat.one_ne_zero, Nat.succ_ne_zero,  lt_def, i32_lit, reduceIte, P_isIn_eq, or_false, false_or, or_true, true_or, and_true, true_and, and_false, false_and, not_true, not_false_eq_true, eq_self, if_true, if_false, not_or, not_and, Nat.not_lt, Nat.not_le, hne, io_le, hd, h1, h2, h3, hf, hg, io_eq]
theorem WK_fld {F fu q f dep : Nat} {s : St} {lg : Int32} (hd : dep ≤ 40) (hf0 : fdc f = true) (h : nd s q (io f) (io 0) none none) : f_WK F (fu + 1) 0 s (some q) lg (io dep) = (f_Logs_fieldOf F s (io f) lg).bind (fun x => some (x.1.toInt64, x.2)) := by
  obtain ⟨o, h1, h2, h3, -, -⟩ := h.dg
  show f_Walker_valueOf (f_WK F fu) F s (some q) lg (io dep) = _
  have hlt : f < 1000 := by unfold fdc at hf0; have := of_decide_eq_true hf0; omega
  have hf := isField_eq (F := F) (s := s) hlt
  rw [if_pos hf0] at hf
  have hne : ¬ some q = none := by simp
  simp (disch := omega) only [f_Walker_valueOf, Option.bind_some, Nat.reduceEqDiff, Nat.add_zero, Nat.zero_add, Nat.reduceLT, Nat.reduceLeDiff, Nat.reduceAdd, Nat.reduceSub, Nat.reduceMul, Nat.reduceDiv, Nat.lt_irrefl, Nat.not_lt_zero, Nat.zero_le, Nat.one_ne_zero, Nat.succ_ne_zero,  lt_def, i32_lit, reduceIte, P_isIn_eq, or_false, false_or, or_true, true_or, and_true, true_and, and_false, false_and, not_true, not_false_eq_true, eq_self, if_true, if_false, not_or, not_and, Nat.not_lt, Nat.not_le, hne, io_le, hd, h1, h2, hf, io_eq]
theorem WK_neg {F fu q l dep : Nat} {s : St} {lg : Int32} (hd : dep ≤ 40) (h : nd s q (io 126) (io 0) (some l) none) : f_WK F (fu + 1) 0 s (some q) lg (io dep) = (f_WK F fu 0 s (some l) lg (io (dep + 1))).bind (fun x => some (-x.1, x.2)) := by
  obtain ⟨o, h1, h2, h3, h4, -⟩ := h.dg
  show f_Walker_valueOf (f_WK F fu) F s (some q) lg (io dep) = _
  have hf := isField_eq (F := F) (s := s) (show 126 < 1000 by omega)
  have hg := isAgg_eq (F := F) (s := s) (show 126 < 1000 by omega)
  rw [if_neg (by decide)] at hf hg
  have hne : ¬ some q = none := by simp
  simp (disch := omega) only [f_Walker_valueOf, Option.bind_some, Nat.reduceEqDiff, Nat.add_zero, Nat.zero_add, Nat.reduceLT, Nat.reduceLeDiff, Nat.reduceAdd, Nat.reduceSub, Nat.reduceMul, Nat.reduceDiv, Nat.lt_irrefl, Nat.not_lt_zero, Nat.zero_le, Nat.one_ne_zero, Nat.succ_ne_zero,  lt_def, i32_lit, reduceIte, P_isIn_eq, or_false, false_or, or_true, true_or, and_true, true_and, and_false, false_and, not_true, not_false_eq_true, eq_self, if_true, if_false, not_or, not_and, Nat.not_lt, Nat.not_le, hne, io_le, hd, h1, h2, h4, hf, hg, io_eq, io_add]
theorem WK_not {F fu q l dep : Nat} {s : St} {lg : Int32} (hd : dep ≤ 40) (h : nd s q (io 33) (io 0) (some l) none) : f_WK F (fu + 1) 0 s (some q) lg (io dep) = (f_WK F fu 0 s (some l) lg (io (dep + 1))).bind (fun x => if x.1 = 0 then some (1, x.2) else some (0, x.2)) := by
  obtain ⟨o, h1, h2, h3, h4, -⟩ := h.dg
  show f_Walker_valueOf (f_WK F fu) F s (some q) lg (io dep) = _
  have hf := isField_eq (F := F) (s := s) (show 33 < 1000 by omega)
  have hg := isAgg_eq (F := F) (s := s) (show 33 < 1000 by omega)
  rw [if_neg (by decide)] at hf hg
  have hne : ¬ some q = none := by simp
  simp (disch := omega) only [f_Walker_valueOf, Option.bind_some, Nat.reduceEqDiff, Nat.add_zero, Nat.zero_add, Nat.reduceLT, Nat.reduceLeDiff, Nat.reduceAdd, Nat.reduceSub, Nat.reduceMul, Nat.reduceDiv, Nat.lt_irrefl, Nat.not_lt_zero, Nat.zero_le, Nat.one_ne_zero, Nat.succ_ne_zero,  lt_def, i32_lit, reduceIte, P_isIn_eq, or_false, false_or, or_true, true_or, and_true, true_and, and_false, false_and, not_true, not_false_eq_true, eq_self, if_true, if_false, not_or, not_and, Nat.not_lt, Nat.not_le, hne, io_le, hd, h1, h2, h4, hf, hg, io_eq, io_add]
theorem WK_bin {F fu q l r sg dep : Nat} {s s1 s2 : St} {lg : Int32} {x y : Int64} (hd : dep ≤ 40) (hs : qop sg ∨ sg = 38 ∨ sg = 124) (h : nd s q (io sg) (io 0) (some l) (some r)) (h1' : nd s1 q (io sg) (io 0) (some l) (some r)) (e1 : f_WK F fu 0 s (some l) lg (io (dep + 1)) = some (x, s1)) (e2 : f_WK F fu 0 s1 (some r) lg (io (dep + 1)) = some (y, s2)) : f_WK F (fu + 1) 0 s (some q) lg (io dep) = (f_P_combined F s2 (io sg) x y).bind (fun z => some (z.1, z.2)) := by
  obtain ⟨o, h1, h2, h3, h4, h5⟩ := h.dg
  obtain ⟨p, g1, g2, g3, g4, g5⟩ := h1'.dg
  show f_Walker_valueOf (f_WK F fu) F s (some q) lg (io dep) = _
  have hlt : sg < 1000 := by unfold qop at hs; omega
  have hf := isField_eq (F := F) (s := s) hlt
  have hg := isAgg_eq (F := F) (s := s) hlt
  rw [if_neg (by unfold fdc; rw [decide_eq_true_eq]; unfold qop at hs; omega)] at hf
  rw [if_neg (by unfold agc; rw [decide_eq_true_eq]; unfold qop at hs; omega)] at hg
  have hne : ¬ some q = none := by simp
  have n1 : ¬ sg = 33 := by unfold qop at hs; omega
  have n2 : ¬ sg = 35 := by unfold qop at hs; omega
  have n3 : ¬ sg = 126 := by unfold qop at hs; omega
  simp (disch := omega) only [f_Walker_valueOf, Option.bind_some, Nat.reduceEqDiff, Nat.add_zero, Nat.zero_add, Nat.reduceLT, Nat.reduceLeDiff, Nat.reduceAdd, Nat.reduceSub, Nat.reduceMul, Nat.reduceDiv, Nat.lt_irrefl, Nat.not_lt_zero, Nat.zero_le, Nat.one_ne_zero, Nat.succ_ne_zero,  lt_def, i32_lit, reduceIte, P_isIn_eq, or_false, false_or, or_true, true_or, and_true, true_and, and_false, false_and, not_true, not_false_eq_true, eq_self, if_true, if_false, not_or, not_and, Nat.not_lt, Nat.not_le, hne, io_le, hd, h1, h2, h4, hf, hg, io_eq, n1, n2, n3, io_add, e1, g1, g5, e2]
/-- a choice, by the walker -/
theorem WKC {F h m k : Nat} {s : St} {L : Nat → LR} (C : LGc s L m) (G : LGg L m h) (hh : h ≤ 1000) (hk : k < m) : ∀ d q c dep fu, TC s d q c → dep + d ≤ 41 → d ≤ fu → ∃ b, f_WK F fu 0 s (some q) (io (rI (L k))) (io dep) = some (b64 b, s) ∧ ∀ st, runC (rec1 (L k)) c st = b :: st := by
  intro d
  induction d with
  | zero => intro q c dep fu h; exact h.elim
  | succ d ih =>
    intro q c dep fu h hdep hfu
    obtain ⟨fu, rfl⟩ : ∃ f', fu = f' + 1 := ⟨fu - 1, by omega⟩
    rcases h with ⟨sg, f, v, b, l, r, rfl, h2, h3, h4, h5, h6, h7, h8⟩ | ⟨l, c1, rfl, h2, h3⟩ | ⟨sg, l, r, c1, c2, h1, rfl, h3, h4, h5⟩
    · have hsg : qop sg := by have : sg = 60 ∨ sg = 62 ∨ sg = 61 := of_decide_eq_true h3; unfold qop; omega
      have hf2 : f < 2147483648 := by unfold fdc at h4; have := of_decide_eq_true h4; omega
      obtain ⟨fu, rfl⟩ : ∃ f', fu = f' + 1 := ⟨fu - 1, by omega⟩
      have e1 : f_WK F (fu + 1) 0 s (some l) (io (rI (L k))) (io (dep + 1)) = some ((fld f (rec1 (L k))).toInt64, s) := by
        rw [WK_fld (by omega) h4 h7, fieldOf_eq C G hh hk hf2]; rfl
      have e2 : f_WK F (fu + 1) 0 s (some r) (io (rI (L k))) (io (dep + 1)) = some (sgn b v, s) := by
        rcases h8 with ⟨rfl, h9⟩ | ⟨rfl, r2, h9, h10⟩
        · rw [WK_num (by omega) h9]; rfl
        · obtain ⟨fu, rfl⟩ : ∃ f', fu = f' + 1 := ⟨fu - 1, by omega⟩
          rw [WK_neg (by omega) h9, WK_num (by omega) h10]; rfl
      refine ⟨cmpv sg (fld f (rec1 (L k))).toInt64 (sgn b v), ?_, fun st => ?_⟩
      · rw [WK_bin (by omega) (Or.inl hsg) h6 h6 e1 e2, comb_C h3]; rfl
      · show stC _ _ st = _
        unfold stC
        rw [if_pos h3]
    · obtain ⟨b, e1, e2⟩ := ih l c1 (dep + 1) fu h3 (by omega) (by omega)
      refine ⟨!b, ?_, fun st => ?_⟩
      · rw [WK_not (by omega) h2, e1, Option.bind_some]
        cases b <;> rfl
      · rw [runC_app, e2]; rfl
    · obtain ⟨x, e1, e2⟩ := ih l c1 (dep + 1) fu h4 (by omega) (by omega)
      obtain ⟨y, e3, e4⟩ := ih r c2 (dep + 1) fu h5 (by omega) (by omega)
      refine ⟨if sg = 38 then x && y else x || y, ?_, fun st => ?_⟩
      · rw [WK_bin (by omega) (Or.inr h1) h3 h3 e1 e3, comb_B h1]; rfl
      · rw [runC_app, runC_app, e2, e4]
        rcases h1 with rfl | rfl <;> rfl
theorem fld_ok {L : Nat → LR} {m h k f : Nat} (G : LGg L m h) (hk : k < m) : vok (fld f (rec1 (L k))) := by
  obtain ⟨g1, g2, g3, g4, g5, g6, g7⟩ := G.2.1 k hk
  unfold fld rec1
  dsimp only
  by_cases e1 : f = 104
  · rw [if_pos e1]; exact vok_io (by omega)
  · rw [if_neg e1]
    by_cases e2 : f = 108
    · rw [if_pos e2]; exact vok_io (by omega)
    · rw [if_neg e2]
      by_cases e3 : f = 112
      · rw [if_pos e3]; exact vok_io (by omega)
      · rw [if_neg e3]
        by_cases e4 : f = 118
        · rw [if_pos e4]; exact ⟨g3, g4⟩
        · rw [if_neg e4]; exact vok_io (by omega)
/-! the logs that a question sees -/
def ev (L : Nat → LR) (pk : List Nat) : List Rec := pk.map (fun k => rec1 (L k))
def LW (s : St) (L : Nat → LR) (m h : Nat) (pk : List Nat) : Prop := LGc s L m ∧ LGg L m h ∧ h ≤ 1000 ∧ PK s L pk ∧ pk.length ≤ 100 ∧ ∀ k ∈ pk, k < m
def WFw (s s' : St) : Prop := Fr [1985, 1987, 1988, 1989] [32, 33] s s' ∧ gJ s' = gJ s
theorem WFw.rf {s : St} : WFw s s := ⟨Fr.rf, rfl⟩
theorem WFw.trans {s s1 s2 : St} (h : WFw s s1) (h2 : WFw s1 s2) : WFw s s2 := ⟨h.1.trans h2.1, h2.2.trans h.2⟩
theorem Fr.nm {eI eA : List Nat} {s s' : St} (f : Fr eI eA s s') : NM s s' := ⟨f.2.2.2.2, fun q o _ hd => by rw [f.2.2.2.1]; exact hd⟩
theorem PK.fr {eI eA : List Nat} {s s' : St} {L : Nat → LR} {l : List Nat} (H : PK s L l) (f : Fr eI eA s s') (d1 : 201 ∉ eI := by decide) (d2 : 11 ∉ eA := by decide) : PK s' L l := by
  unfold PK
  rw [f.gi 201 d1, f.ga 11 d2]
  exact H
theorem LW.fr {eI eA : List Nat} {s s' : St} {L : Nat → LR} {m h : Nat} {pk : List Nat} (H : LW s L m h pk) (f : Fr eI eA s s') (d1 : 200 ∉ eI := by decide) (d : ∀ k ∈ [4, 5, 6, 7, 8, 9, 10], k ∉ eA := by decide) (d3 : 201 ∉ eI := by decide) (d4 : 11 ∉ eA := by decide) : LW s' L m h pk :=
  ⟨H.1.fr f d1 d, H.2.1, H.2.2.1, H.2.2.2.1.fr f d3 d4, H.2.2.2.2⟩
theorem ev_snoc {L : Nat → LR} {pk : List Nat} {i : Nat} (hi : i < pk.length) {p : Rec → Bool} {f : Rec → Int32} : (((ev L pk).take (i + 1)).filter p).map f = (((ev L pk).take i).filter p).map f ++ (if p (rec1 (L pk[i])) = true then [f (rec1 (L pk[i]))] else []) := by
  have hl : i < (ev L pk).length := by unfold ev; rw [List.length_map]; exact hi
  have e : (ev L pk)[i] = rec1 (L pk[i]) := by simp only [ev, List.getElem_map]
  rw [List.take_succ_eq_append_getElem hl, List.filter_append, List.map_append, e]
  congr 1
  by_cases h : p (rec1 (L pk[i])) = true
  · rw [if_pos h, List.filter_cons_of_pos h]; rfl
  · rw [if_neg h, List.filter_cons_of_neg h]; rfl
theorem fil_len {L : Nat → LR} {pk : List Nat} {i : Nat} {p : Rec → Bool} {f : Rec → Int32} : ((((ev L pk).take i).filter p).map f).length ≤ i := by
  rw [List.length_map]
  exact Nat.le_trans (List.length_filter_le _ _) (by rw [List.length_take]; exact Nat.min_le_left _ _)
theorem gath_loop {F h m k f q dep fu : Nat} (hF : 5000 ≤ F) {s0 : St} {L : Nat → LR} {pk : List Nat} {l r : Option Nat} {ch : Option (List CT)} {d : Nat} (W : LW s0 L m h pk) (hk : agc k = true) (hq : nd s0 q (io k) (io 0) l r)
    (hl : (k = 110 ∧ f = 0 ∧ l = none) ∨ (k ≠ 110 ∧ fdc f = true ∧ ∃ l', l = some l' ∧ nd s0 l' (io f) (io 0) none none)) (hr : (ch = none ∧ r = none) ∨ (∃ cc r', ch = some cc ∧ r = some r' ∧ TC s0 d r' cc)) (hd : dep + 1 + d ≤ 41) (hfu : d ≤ fu) :
    ∀ j n i s, i + j = pk.length → j < n → WFw s0 s → TSw s ((((ev L pk).take i).filter (chB ch)).map (fld f)) → ∃ s', f_Walker_gathered_b10 (f_WK F fu) F n s (some q) (io dep) (io i) = some (aggv (ev L pk) k f ch, s') ∧ WFw s0 s' ∧ ∃ vs, TLw s' vs := by
  have hkl : k < 2147483648 := by unfold agc at hk; have := of_decide_eq_true hk; omega
  intro j
  induction j with
  | zero =>
    intro n i s hi hn hf T
    obtain ⟨n, rfl⟩ : ∃ n', n = n' + 1 := ⟨n - 1, by omega⟩
    have hi' : i = pk.length := by omega
    subst hi'
    have W' := W.fr hf.1
    have e1 := W'.2.2.2.1.1
    have hpl := W.2.2.2.2.1
    obtain ⟨o, h1, h2, h3, h4, h5⟩ := (hq.nm hf.1.nm).dg
    rw [List.take_of_length_le (by unfold ev; rw [List.length_map]; exact Nat.le_refl _)] at T
    have hres := result_eqw (F := F) (k := k) hF hkl T
    refine ⟨s, ?_, hf, _, T.1⟩
    simp (disch := omega) only [f_Walker_gathered_b10, Option.bind_some, Nat.reduceEqDiff, Nat.add_zero, Nat.zero_add, Nat.reduceLT, Nat.reduceLeDiff, Nat.reduceAdd, Nat.reduceSub, Nat.reduceMul, Nat.reduceDiv, Nat.lt_irrefl, Nat.not_lt_zero, Nat.zero_le, Nat.one_ne_zero, Nat.succ_ne_zero,  lt_def, i32_lit, reduceIte, P_isIn_eq, or_false, false_or, or_true, true_or, and_true, true_and, and_false, false_and, not_true, not_false_eq_true, eq_self, if_true, if_false, not_or, not_and, Nat.not_lt, Nat.not_le, e1, io_le, Nat.le_refl, h1, h2, hres]
    rfl
  | succ j ih =>
    intro n i s hi hn hf T
    obtain ⟨n, rfl⟩ : ∃ n', n = n' + 1 := ⟨n - 1, by omega⟩
    have W' := W.fr hf.1
    have e1 := W'.2.2.2.1.1
    have hpl := W.2.2.2.2.1
    have hlt : i < pk.length := by omega
    have n1 : ¬ pk.length ≤ i := by omega
    have n2 : ¬ 100 ≤ i := by omega
    have e11 := W'.2.2.2.1.2 i hlt
    have hkm : pk[i] < m := W.2.2.2.2.2 _ (List.getElem_mem hlt)
    obtain ⟨o, h1, h2, h3, h4, h5⟩ := (hq.nm hf.1.nm).dg
    have hfl := fil_len (L := L) (pk := pk) (i := i) (p := chB ch) (f := fld f)
    -- the value comes in
    have key : chB ch (rec1 (L pk[i])) = true → ∃ s', f_Walker_gathered_b64 (f_WK F fu) F (f_Walker_gathered_b10 (f_WK F fu) F n) s (some q) (io dep) (io i) (io (rI (L pk[i]))) = some (aggv (ev L pk) k f ch, s') ∧ WFw s0 s' ∧ ∃ vs, TLw s' vs := by
      intro hc
      obtain ⟨s1, a1, a2, a3, a4⟩ := add_eqw (F := F) T (fld_ok (f := f) W.2.1 hkm) (by omega)
      have hf1 : WFw s0 s1 := hf.trans ⟨a3, a4⟩
      obtain ⟨s2, b1, b2, b3⟩ := ih n (i + 1) s1 (by omega) (by omega) hf1 (by rw [ev_snoc hlt, if_pos hc]; exact a2)
      refine ⟨s2, ?_, b2, b3⟩
      rcases hl with ⟨x1, x2, x3⟩ | ⟨x1, x2, l', x3, x4⟩
      · subst x3
        have e0 : fld f (rec1 (L pk[i])) = io 0 := by rw [x2]; rfl
        rw [e0] at a1
        simp (disch := omega) only [f_Walker_gathered_b64, Option.bind_some, Nat.reduceEqDiff, Nat.add_zero, Nat.zero_add, Nat.reduceLT, Nat.reduceLeDiff, Nat.reduceAdd, Nat.reduceSub, Nat.reduceMul, Nat.reduceDiv, Nat.lt_irrefl, Nat.not_lt_zero, Nat.zero_le, Nat.one_ne_zero, Nat.succ_ne_zero,  lt_def, i32_lit, reduceIte, P_isIn_eq, or_false, false_or, or_true, true_or, and_true, true_and, and_false, false_and, not_true, not_false_eq_true, eq_self, if_true, if_false, not_or, not_and, Nat.not_lt, Nat.not_le, h1, h4, a1, io_add]
        exact b1
      · subst x3
        obtain ⟨p, g1, g2, g3, g4, g5⟩ := (x4.nm hf.1.nm).dg
        have hf2 : f < 2147483648 := by unfold fdc at x2; have := of_decide_eq_true x2; omega
        have hfo := fieldOf_eq (F := F) (f := f) W'.1 W'.2.1 W'.2.2.1 hkm hf2
        have hne : ¬ some l' = none := by simp
        simp (disch := omega) only [f_Walker_gathered_b64, Option.bind_some, Nat.reduceEqDiff, Nat.add_zero, Nat.zero_add, Nat.reduceLT, Nat.reduceLeDiff, Nat.reduceAdd, Nat.reduceSub, Nat.reduceMul, Nat.reduceDiv, Nat.lt_irrefl, Nat.not_lt_zero, Nat.zero_le, Nat.one_ne_zero, Nat.succ_ne_zero,  lt_def, i32_lit, reduceIte, P_isIn_eq, or_false, false_or, or_true, true_or, and_true, true_and, and_false, false_and, not_true, not_false_eq_true, eq_self, if_true, if_false, not_or, not_and, Nat.not_lt, Nat.not_le, h1, h4, hne, g1, g2, hfo, a1, io_add]
        exact b1
    rcases hr with ⟨x1, x2⟩ | ⟨cc, r', x1, x2, x3⟩
    · subst x1; subst x2
      obtain ⟨s', c1, c2⟩ := key rfl
      refine ⟨s', ?_, c2⟩
      simp (disch := omega) only [f_Walker_gathered_b10, Option.bind_some, Nat.reduceEqDiff, Nat.add_zero, Nat.zero_add, Nat.reduceLT, Nat.reduceLeDiff, Nat.reduceAdd, Nat.reduceSub, Nat.reduceMul, Nat.reduceDiv, Nat.lt_irrefl, Nat.not_lt_zero, Nat.zero_le, Nat.one_ne_zero, Nat.succ_ne_zero,  lt_def, i32_lit, reduceIte, P_isIn_eq, or_false, false_or, or_true, true_or, and_true, true_and, and_false, false_and, not_true, not_false_eq_true, eq_self, if_true, if_false, not_or, not_and, Nat.not_lt, Nat.not_le, e1, io_le, n1, n2, ix_io, h1, h5, e11]
      exact c1
    · subst x1; subst x2
      have hne : ¬ some r' = none := by simp
      obtain ⟨b, y1, y2⟩ := WKC (F := F) W'.1 W'.2.1 W'.2.2.1 hkm d r' cc (dep + 1) fu (TC.nm hf.1.nm _ _ _ x3) (by omega) hfu
      have hb : chB (some cc) (rec1 (L pk[i])) = b := valC_of y2
      cases b with
      | true =>
        obtain ⟨s', c1, c2⟩ := key hb
        refine ⟨s', ?_, c2⟩
        have h10 : ¬ b64 true = 0 := by rw [b64_0]; decide
        simp (disch := omega) only [f_Walker_gathered_b10, Option.bind_some, Nat.reduceEqDiff, Nat.add_zero, Nat.zero_add, Nat.reduceLT, Nat.reduceLeDiff, Nat.reduceAdd, Nat.reduceSub, Nat.reduceMul, Nat.reduceDiv, Nat.lt_irrefl, Nat.not_lt_zero, Nat.zero_le, Nat.one_ne_zero, Nat.succ_ne_zero,  lt_def, i32_lit, reduceIte, P_isIn_eq, or_false, false_or, or_true, true_or, and_true, true_and, and_false, false_and, not_true, not_false_eq_true, eq_self, if_true, if_false, not_or, not_and, Nat.not_lt, Nat.not_le, e1, io_le, n1, n2, ix_io, h1, h5, hne, e11, io_add, y1, h10]
        exact c1
      | false =>
        obtain ⟨s2, b1, b2, b3⟩ := ih n (i + 1) s (by omega) (by omega) hf (by rw [ev_snoc hlt, if_neg (by rw [hb]; decide), List.append_nil]; exact T)
        refine ⟨s2, ?_, b2, b3⟩
        have h10 : b64 false = 0 := rfl
        simp (disch := omega) only [f_Walker_gathered_b10, Option.bind_some, Nat.reduceEqDiff, Nat.add_zero, Nat.zero_add, Nat.reduceLT, Nat.reduceLeDiff, Nat.reduceAdd, Nat.reduceSub, Nat.reduceMul, Nat.reduceDiv, Nat.lt_irrefl, Nat.not_lt_zero, Nat.zero_le, Nat.one_ne_zero, Nat.succ_ne_zero,  lt_def, i32_lit, reduceIte, P_isIn_eq, or_false, false_or, or_true, true_or, and_true, true_and, and_false, false_and, not_true, not_false_eq_true, eq_self, if_true, if_false, not_or, not_and, Nat.not_lt, Nat.not_le, e1, io_le, n1, n2, ix_io, h1, h5, hne, e11, io_add, y1, h10]
        exact b1
theorem WKQ {F h m : Nat} (hF : 5000 ≤ F) {L : Nat → LR} {pk : List Nat} : ∀ d q c dep fu s, TQ s d q c → dep + d ≤ 41 → d + 2 ≤ fu → LW s L m h pk → (∃ vs, TLw s vs) → ∃ v s', f_WK F fu 0 s (some q) (-io 1) (io dep) = some (v, s') ∧ WFw s s' ∧ (∃ vs, TLw s' vs) ∧ ∀ st, runQ (ev L pk) c st = v :: st := by
  intro d
  induction d with
  | zero => intro q c dep fu s h; exact h.elim
  | succ d ih =>
    intro q c dep fu s h hdep hfu W TT
    obtain ⟨fu, rfl⟩ : ∃ f', fu = f' + 1 := ⟨fu - 1, by omega⟩
    rcases h with ⟨v, rfl, h2, h3⟩ | ⟨l, c1, rfl, h2, h3⟩ | ⟨sg, l, r, c1, c2, h1, rfl, h3, h4, h5⟩ | ⟨k, f, ch, l, r, rfl, h2, h3, h4, h5⟩
    · exact ⟨_, s, WK_num (by omega) h3, WFw.rf, TT, fun st => rfl⟩
    · obtain ⟨v, s1, e1, e2, e3, e4⟩ := ih l c1 (dep + 1) fu s h3 (by omega) (by omega) W TT
      refine ⟨-v, s1, ?_, e2, e3, fun st => ?_⟩
      · rw [WK_neg (by omega) h2, e1]; rfl
      · rw [runQ_app, e4]; rfl
    · obtain ⟨x, s1, e1, e2, e3, e4⟩ := ih l c1 (dep + 1) fu s h4 (by omega) (by omega) W TT
      obtain ⟨y, s2, e5, e6, e7, e8⟩ := ih r c2 (dep + 1) fu s1 (TQ.nm e2.1.nm _ _ _ h5) (by omega) (by omega) (W.fr e2.1) e3
      refine ⟨cmb sg x y, s2, ?_, e2.trans e6, e7, fun st => ?_⟩
      · rw [WK_bin (by omega) (Or.inl h1) h3 (h3.nm e2.1.nm) e1 e5, comb_Q h1]; rfl
      · rw [runQ_app, runQ_app, e4, e8]
        show stQ _ (tkQ sg) (y :: x :: st) = _
        unfold stQ tkQ
        rw [if_neg (by unfold qop at h1; show ¬ sg = 35; omega), if_neg (by unfold agc; rw [decide_eq_true_eq]; unfold qop at h1; show ¬ (sg = 100 ∨ _); omega), if_neg (by unfold qop at h1; show ¬ sg = 126; omega)]
    · obtain ⟨vs, T⟩ := TT
      obtain ⟨fu, rfl⟩ : ∃ f', fu = f' + 1 := ⟨fu - 1, by omega⟩
      obtain ⟨s1, a1, a2, a3, a4⟩ := clear_eqw (F := F) hF T
      have wf : WFw s s1 := ⟨a3.wide (by decide) (by decide), a4⟩
      have hpl := W.2.2.2.2.1
      obtain ⟨s2, b1, b2, b3⟩ := gath_loop (F := F) (fu := fu) (dep := dep) (d := d) hF (W.fr wf.1) h2 (h3.nm wf.1.nm) (h4.imp id (fun ⟨x1, x2, l', x3, x4⟩ => ⟨x1, x2, l', x3, x4.nm wf.1.nm⟩)) (h5.imp id (fun ⟨cc, r', x1, x2, x3⟩ => ⟨cc, r', x1, x2, TC.nm wf.1.nm _ _ _ x3⟩)) (by omega) (by omega) pk.length F 0 s1 (by omega) (by omega) WFw.rf a2
      refine ⟨aggv (ev L pk) k f ch, s2, ?_, wf.trans b2, b3, fun st => ?_⟩
      · obtain ⟨o, g1, g2, g3, g4, g5⟩ := h3.dg
        show f_Walker_valueOf (f_WK F (fu + 1)) F s (some q) (-io 1) (io dep) = _
        have hlt : k < 1000 := by unfold agc at h2; have := of_decide_eq_true h2; omega
        have hf := isField_eq (F := F) (s := s) hlt
        have hg := isAgg_eq (F := F) (s := s) hlt
        rw [if_neg (by unfold fdc; unfold agc at h2; rw [decide_eq_true_eq] at *; omega)] at hf
        rw [if_pos h2] at hg
        have hne : ¬ some q = none := by simp
        have hd40 : dep ≤ 40 := by omega
        have e1 : f_WK F (fu + 1) 1 s (some q) (io dep) (io 0) = some (aggv (ev L pk) k f ch, s2) := by
          show f_Walker_gathered (f_WK F fu) F s (some q) (io dep) = _
          simp (disch := omega) only [f_Walker_gathered, Option.bind_some, Nat.reduceEqDiff, Nat.add_zero, Nat.zero_add, Nat.reduceLT, Nat.reduceLeDiff, Nat.reduceAdd, Nat.reduceSub, Nat.reduceMul, Nat.reduceDiv, Nat.lt_irrefl, Nat.not_lt_zero, Nat.zero_le, Nat.one_ne_zero, Nat.succ_ne_zero,  lt_def, i32_lit, reduceIte, P_isIn_eq, or_false, false_or, or_true, true_or, and_true, true_and, and_false, false_and, not_true, not_false_eq_true, eq_self, if_true, if_false, not_or, not_and, Nat.not_lt, Nat.not_le, a1]
          exact b1
        simp (disch := omega) only [f_Walker_valueOf, Option.bind_some, Nat.reduceEqDiff, Nat.add_zero, Nat.zero_add, Nat.reduceLT, Nat.reduceLeDiff, Nat.reduceAdd, Nat.reduceSub, Nat.reduceMul, Nat.reduceDiv, Nat.lt_irrefl, Nat.not_lt_zero, Nat.zero_le, Nat.one_ne_zero, Nat.succ_ne_zero,  lt_def, i32_lit, reduceIte, P_isIn_eq, or_false, false_or, or_true, true_or, and_true, true_and, and_false, false_and, not_true, not_false_eq_true, eq_self, if_true, if_false, not_or, not_and, Nat.not_lt, Nat.not_le, hne, io_le, hd40, g1, g2, hf, hg, io_eq, e1]
      · show stQ _ (k, f, ch) st = _
        unfold stQ
        rw [if_neg (by unfold agc at h2; have := of_decide_eq_true h2; show ¬ k = 35; omega), if_pos h2]
theorem walk_eq {F h m n q : Nat} (hF : 5000 ≤ F) {L : Nat → LR} {pk : List Nat} {s : St} {c : List QT} (hn : n ≤ 40) (H : TQ s n q c) (W : LW s L m h pk) (TT : ∃ vs, TLw s vs) : ∃ s', f_Walker_run F s (some q) = some (valQ (ev L pk) c, s') ∧ WFw s s' ∧ ∃ vs, TLw s' vs := by
  obtain ⟨v, s', e1, e2, e3, e4⟩ := WKQ (F := F) hF n q c 0 100 s H (by omega) (by omega) W TT
  refine ⟨s', ?_, e2, e3⟩
  rw [valQ_of e4]
  simp (disch := omega) only [f_Walker_run, f_Walker_valueOf_t, Option.bind_some, Nat.reduceEqDiff, Nat.add_zero, Nat.zero_add, Nat.reduceLT, Nat.reduceLeDiff, Nat.reduceAdd, Nat.reduceSub, Nat.reduceMul, Nat.reduceDiv, Nat.lt_irrefl, Nat.not_lt_zero, Nat.zero_le, Nat.one_ne_zero, Nat.succ_ne_zero,  lt_def, i32_lit, reduceIte, P_isIn_eq, or_false, false_or, or_true, true_or, and_true, true_and, and_false, false_and, not_true, not_false_eq_true, eq_self, if_true, if_false, not_or, not_and, Nat.not_lt, Nat.not_le, e1]

