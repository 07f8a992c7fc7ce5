/-! the model's machine: its piles and rows -/
def stk (g : Nat → Int32) : List Nat → Prop
  | [] => True
  | x :: w => g w.length = io x ∧ stk g w
theorem stk_ext {g g' : Nat → Int32} : ∀ w : List Nat, (∀ i, i < w.length → g' i = g i) → stk g w → stk g' w := by
  intro w
  induction w with
  | nil => intro _ _; trivial
  | cons x w ih =>
    intro h hs
    exact ⟨by rw [h _ (by show w.length < w.length + 1; omega)]; exact hs.1, ih (fun i hi => h i (by show i < w.length + 1; omega)) hs.2⟩
abbrev PR : Type := Nat × Nat
def row (s : St) (k1 k2 b : Nat) (l : List PR) : Prop := ∀ i (h : i < l.length), gA s k1 (b + i) = io l[i].1 ∧ gA s k2 (b + i) = io l[i].2
def MB (s : St) (p : Nat) (w : List Nat) (c a : List PR) (cm : Nat) (cl : List Nat) : Prop :=
  p ≤ 4 ∧ gI s 2504 = io p ∧ gA s 43 p = io c.length ∧ row s 41 42 (64 * p) c ∧ gA s 46 p = io a.length ∧ row s 44 45 (64 * p) a ∧ gI s 2515 = io w.length ∧ stk (gA s 47) w ∧ gI s 2518 = io cl.length ∧ stk (gA s 49) (cm :: cl)
def MA (s : St) (v : List Nat) (lv : Nat) : Prop := gI s 2517 = io v.length ∧ stk (gA s 48) v ∧ gI s 2519 = io lv
/-- the text that the model reads -/
def MT (t : Nat → Nat) (n : Nat) (s : St) : Prop := gI s 2497 = io n ∧ ∀ k, k < n → gA s 40 k = io (t k)
/-- only the slot p and the machine's own cells change -/
def FM (E : List Nat) (p : Nat) (s s' : St) : Prop := Fr E [41, 42, 43, 44, 45, 46, 47, 48, 49] s s' ∧ gJ s' = gJ s ∧ (∀ k, (k = 41 ∨ k = 42 ∨ k = 44 ∨ k = 45) → ∀ i, (i < 64 * p ∨ 64 * p + 64 ≤ i) → gA s' k i = gA s k i) ∧ (∀ k, (k = 43 ∨ k = 46) → ∀ i, i ≠ p → gA s' k i = gA s k i) ∧ (gI s' 2511 = gI s 2511 ∨ ∃ f0, f0 < 128 ∧ gI s' 2511 = io f0)
theorem FM.rf {E : List Nat} {p : Nat} {s : St} : FM E p s s := ⟨Fr.rf, rfl, fun _ _ _ _ => rfl, fun _ _ _ _ => rfl, Or.inl rfl⟩
theorem FM.trans {E : List Nat} {p : Nat} {s s1 s2 : St} (h : FM E p s s1) (h2 : FM E p s1 s2) : FM E p s s2 :=
  ⟨h.1.trans h2.1, h2.2.1.trans h.2.1, fun k hk i hi => (h2.2.2.1 k hk i hi).trans (h.2.2.1 k hk i hi), fun k hk i hi => (h2.2.2.2.1 k hk i hi).trans (h.2.2.2.1 k hk i hi), by
    rcases h2.2.2.2.2 with h9 | h9
    · rw [h9]; exact h.2.2.2.2
    · exact Or.inr h9⟩
theorem FM.wide {E E' : List Nat} {p : Nat} {s s1 : St} (h : FM E p s s1) (h1 : ∀ k ∈ E, k ∈ E') : FM E' p s s1 := ⟨h.1.wide h1 (fun _ h => h), h.2⟩
theorem FM.I {E : List Nat} {p : Nat} {s s1 : St} (h : FM E p s s1) {k : Nat} {x : Int32} (hk : k ∈ E) (h11 : k ≠ 2511 := by decide) : FM E p s (sI s1 k x) := ⟨h.1.I hk, h.2.1, h.2.2.1, h.2.2.2.1, by rw [gI_sI, if_neg h11.symm]; exact h.2.2.2.2⟩
theorem FM.I11 {E : List Nat} {p f : Nat} {s s1 : St} (h : FM E p s s1) (hk : 2511 ∈ E) (hf : f < 128) : FM E p s (sI s1 2511 (io f)) := ⟨h.1.I hk, h.2.1, h.2.2.1, h.2.2.2.1, Or.inr ⟨f, hf, rfl⟩⟩
theorem FM.A {E : List Nat} {p : Nat} {s s1 : St} (h : FM E p s s1) {k i : Nat} {x : Int32} (hk : k = 47 ∨ k = 48 ∨ k = 49) : FM E p s (sA s1 k i x) := by
  refine ⟨h.1.A (by rcases hk with rfl | rfl | rfl <;> decide), h.2.1, fun k' hk' i' hi' => ?_, fun k' hk' i' hi' => ?_, h.2.2.2.2⟩
  · rw [gA_sA, if_neg (by omega)]; exact h.2.2.1 k' hk' i' hi'
  · rw [gA_sA, if_neg (by omega)]; exact h.2.2.2.1 k' hk' i' hi'
theorem FM.C {E : List Nat} {p : Nat} {s s1 : St} (h : FM E p s s1) {k i : Nat} {x : Int32} (hk : k = 41 ∨ k = 42 ∨ k = 44 ∨ k = 45) (hi : i < 64) : FM E p s (sA s1 k (64 * p + i) x) := by
  refine ⟨h.1.A (by rcases hk with rfl | rfl | rfl | rfl <;> decide), h.2.1, fun k' hk' i' hi' => ?_, fun k' hk' i' hi' => ?_, h.2.2.2.2⟩
  · rw [gA_sA]
    by_cases e : k' = k
    · rw [if_pos e, if_neg (by omega), ← e]; exact h.2.2.1 k' hk' i' hi'
    · rw [if_neg e]; exact h.2.2.1 k' hk' i' hi'
  · rw [gA_sA, if_neg (by omega)]; exact h.2.2.2.1 k' hk' i' hi'
theorem FM.K {E : List Nat} {p : Nat} {s s1 : St} (h : FM E p s s1) {k : Nat} {x : Int32} (hk : k = 43 ∨ k = 46) : FM E p s (sA s1 k p x) := by
  refine ⟨h.1.A (by rcases hk with rfl | rfl <;> decide), h.2.1, fun k' hk' i' hi' => ?_, fun k' hk' i' hi' => ?_, h.2.2.2.2⟩
  · rw [gA_sA, if_neg (by omega)]; exact h.2.2.1 k' hk' i' hi'
  · rw [gA_sA]
    by_cases e : k' = k
    · rw [if_pos e, if_neg hi', ← e]; exact h.2.2.2.1 k' hk' i' hi'
    · rw [if_neg e]; exact h.2.2.2.1 k' hk' i' hi'
theorem FM.f11 {E : List Nat} {p : Nat} {s s' : St} (h : FM E p s s') (hf : ∃ f0, f0 < 128 ∧ gI s 2511 = io f0) : ∃ f0, f0 < 128 ∧ gI s' 2511 = io f0 := by
  rcases h.2.2.2.2 with h9 | h9
  · rw [h9]; exact hf
  · exact h9
theorem FM.mt {E : List Nat} {p n : Nat} {t : Nat → Nat} {s s' : St} (h : FM E p s s') (H : MT t n s) (d : 2497 ∉ E := by decide) : MT t n s' := ⟨by rw [h.1.gi 2497 d]; exact H.1, by rw [h.1.ga 40 (by decide)]; exact H.2⟩
section MBS
variable {s : St} {p cm lv x y : Nat} {w cl v : List Nat} {c a : List PR} {k : Nat} {z : Int32}
theorem MB.I (H : MB s p w c a cm cl) (h1 : k ≠ 2504 := by decide) (h2 : k ≠ 2515 := by decide) (h3 : k ≠ 2518 := by decide) : MB (sI s k z) p w c a cm cl := by
  obtain ⟨a1, a2, a3, a4, a5, a6, a7, a8, a9, a10⟩ := H
  exact ⟨a1, by rw [gI_sI, if_neg h1.symm]; exact a2, a3, a4, a5, a6, by rw [gI_sI, if_neg h2.symm]; exact a7, a8, by rw [gI_sI, if_neg h3.symm]; exact a9, a10⟩
theorem MA.I (H : MA s v lv) (h1 : k ≠ 2517 := by decide) (h2 : k ≠ 2519 := by decide) : MA (sI s k z) v lv := ⟨by rw [gI_sI, if_neg h1.symm]; exact H.1, H.2.1, by rw [gI_sI, if_neg h2.symm]; exact H.2.2⟩
theorem MB.push (H : MB s p w c a cm cl) : MB (sI (sA s 47 w.length (io x)) 2515 (io (w.length + 1))) p (x :: w) c a cm cl := by
  obtain ⟨a1, a2, a3, a4, a5, a6, a7, a8, a9, a10⟩ := H
  refine ⟨a1, a2, a3, a4, a5, a6, rfl, ⟨?_, stk_ext w (fun i hi => ?_) a8⟩, a9, a10⟩
  · simp only [gI_sI, gI_sA, gI_sL, gI_sJ, gI_sR, gI_sQ, gI_sD, gI_sN, gI_sz, gA_sI, gA_sA, gA_sL, gA_sJ, gA_sR, gA_sQ, gA_sD, gA_sN, gA_sz, gL_sI, gL_sA, gL_sL, gL_sJ, gL_sR, gL_sQ, gL_sD, gL_sN, gL_sz, gJ_sI, gJ_sA, gJ_sL, gJ_sJ, gJ_sR, gJ_sQ, gJ_sD, gJ_sN, gJ_sz, gR_sI, gR_sA, gR_sL, gR_sJ, gR_sR, gR_sQ, gR_sD, gR_sN, gR_sz, gQ_sI, gQ_sA, gQ_sL, gQ_sJ, gQ_sR, gQ_sQ, gQ_sD, gQ_sN, gQ_sz, gD_sI, gD_sA, gD_sL, gD_sJ, gD_sR, gD_sQ, gD_sD, gD_sN, gD_sz, sz_sI, sz_sA, sz_sL, sz_sJ, sz_sR, sz_sQ, sz_sD, sz_sN, sz_sz, reduceIte]
  · simp only [gI_sI, gI_sA, gI_sL, gI_sJ, gI_sR, gI_sQ, gI_sD, gI_sN, gI_sz, gA_sI, gA_sA, gA_sL, gA_sJ, gA_sR, gA_sQ, gA_sD, gA_sN, gA_sz, gL_sI, gL_sA, gL_sL, gL_sJ, gL_sR, gL_sQ, gL_sD, gL_sN, gL_sz, gJ_sI, gJ_sA, gJ_sL, gJ_sJ, gJ_sR, gJ_sQ, gJ_sD, gJ_sN, gJ_sz, gR_sI, gR_sA, gR_sL, gR_sJ, gR_sR, gR_sQ, gR_sD, gR_sN, gR_sz, gQ_sI, gQ_sA, gQ_sL, gQ_sJ, gQ_sR, gQ_sQ, gQ_sD, gQ_sN, gQ_sz, gD_sI, gD_sA, gD_sL, gD_sJ, gD_sR, gD_sQ, gD_sD, gD_sN, gD_sz, sz_sI, sz_sA, sz_sL, sz_sJ, sz_sR, sz_sQ, sz_sD, sz_sN, sz_sz, reduceIte]; rw [if_neg (by omega)]
theorem MB.pop (H : MB s p (x :: w) c a cm cl) : MB (sI s 2515 (io w.length)) p w c a cm cl := by
  obtain ⟨a1, a2, a3, a4, a5, a6, a7, a8, a9, a10⟩ := H
  exact ⟨a1, a2, a3, a4, a5, a6, rfl, a8.2, a9, a10⟩
theorem row_snoc {k1 k2 b : Nat} {s s' : St} {l : List PR} {e : PR} (h : row s k1 k2 b l) (h1 : ∀ i, i < l.length → gA s' k1 (b + i) = gA s k1 (b + i) ∧ gA s' k2 (b + i) = gA s k2 (b + i)) (h2 : gA s' k1 (b + l.length) = io e.1 ∧ gA s' k2 (b + l.length) = io e.2) : row s' k1 k2 b (l ++ [e]) := by
  intro i hi
  rw [List.length_append] at hi
  have hi' : i < l.length + 1 := hi
  by_cases he : i = l.length
  · subst he
    rw [List.getElem_append_right (Nat.le_refl _)]
    simpa using h2
  · rw [List.getElem_append_left (by omega), (h1 i (by omega)).1, (h1 i (by omega)).2]
    exact h i (by omega)
def sCd (s : St) (p m k x : Nat) : St := sA (sA (sA s 41 (64 * p + m) (io k)) 42 (64 * p + m) (io x)) 43 p (io (m + 1))
def sAk (s : St) (p m k x : Nat) : St := sA (sA (sA s 44 (64 * p + m) (io k)) 45 (64 * p + m) (io x)) 46 p (io (m + 1))
theorem MB.code (H : MB s p w c a cm cl) : MB (sCd s p c.length x y) p w (c ++ [(x, y)]) a cm cl := by
  obtain ⟨a1, a2, a3, a4, a5, a6, a7, a8, a9, a10⟩ := H
  refine ⟨a1, a2, ?_, row_snoc a4 (fun i hi => ?_) ?_, a5, a6, a7, a8, a9, a10⟩
  · show gA (sCd _ _ _ _ _) 43 p = _
    unfold sCd
    simp only [gI_sI, gI_sA, gI_sL, gI_sJ, gI_sR, gI_sQ, gI_sD, gI_sN, gI_sz, gA_sI, gA_sA, gA_sL, gA_sJ, gA_sR, gA_sQ, gA_sD, gA_sN, gA_sz, gL_sI, gL_sA, gL_sL, gL_sJ, gL_sR, gL_sQ, gL_sD, gL_sN, gL_sz, gJ_sI, gJ_sA, gJ_sL, gJ_sJ, gJ_sR, gJ_sQ, gJ_sD, gJ_sN, gJ_sz, gR_sI, gR_sA, gR_sL, gR_sJ, gR_sR, gR_sQ, gR_sD, gR_sN, gR_sz, gQ_sI, gQ_sA, gQ_sL, gQ_sJ, gQ_sR, gQ_sQ, gQ_sD, gQ_sN, gQ_sz, gD_sI, gD_sA, gD_sL, gD_sJ, gD_sR, gD_sQ, gD_sD, gD_sN, gD_sz, sz_sI, sz_sA, sz_sL, sz_sJ, sz_sR, sz_sQ, sz_sD, sz_sN, sz_sz, reduceIte, List.length_append, List.length_cons, List.length_nil]
  · unfold sCd
    have : ¬ 64 * p + i = 64 * p + c.length := by omega
    simp only [gI_sI, gI_sA, gI_sL, gI_sJ, gI_sR, gI_sQ, gI_sD, gI_sN, gI_sz, gA_sI, gA_sA, gA_sL, gA_sJ, gA_sR, gA_sQ, gA_sD, gA_sN, gA_sz, gL_sI, gL_sA, gL_sL, gL_sJ, gL_sR, gL_sQ, gL_sD, gL_sN, gL_sz, gJ_sI, gJ_sA, gJ_sL, gJ_sJ, gJ_sR, gJ_sQ, gJ_sD, gJ_sN, gJ_sz, gR_sI, gR_sA, gR_sL, gR_sJ, gR_sR, gR_sQ, gR_sD, gR_sN, gR_sz, gQ_sI, gQ_sA, gQ_sL, gQ_sJ, gQ_sR, gQ_sQ, gQ_sD, gQ_sN, gQ_sz, gD_sI, gD_sA, gD_sL, gD_sJ, gD_sR, gD_sQ, gD_sD, gD_sN, gD_sz, sz_sI, sz_sA, sz_sL, sz_sJ, sz_sR, sz_sQ, sz_sD, sz_sN, sz_sz, reduceIte, Nat.reduceEqDiff, this, and_self]
  · unfold sCd
    simp only [gI_sI, gI_sA, gI_sL, gI_sJ, gI_sR, gI_sQ, gI_sD, gI_sN, gI_sz, gA_sI, gA_sA, gA_sL, gA_sJ, gA_sR, gA_sQ, gA_sD, gA_sN, gA_sz, gL_sI, gL_sA, gL_sL, gL_sJ, gL_sR, gL_sQ, gL_sD, gL_sN, gL_sz, gJ_sI, gJ_sA, gJ_sL, gJ_sJ, gJ_sR, gJ_sQ, gJ_sD, gJ_sN, gJ_sz, gR_sI, gR_sA, gR_sL, gR_sJ, gR_sR, gR_sQ, gR_sD, gR_sN, gR_sz, gQ_sI, gQ_sA, gQ_sL, gQ_sJ, gQ_sR, gQ_sQ, gQ_sD, gQ_sN, gQ_sz, gD_sI, gD_sA, gD_sL, gD_sJ, gD_sR, gD_sQ, gD_sD, gD_sN, gD_sz, sz_sI, sz_sA, sz_sL, sz_sJ, sz_sR, sz_sQ, sz_sD, sz_sN, sz_sz, reduceIte, Nat.reduceEqDiff, and_self]
theorem MB.ask (H : MB s p w c a cm cl) : MB (sAk s p a.length x y) p w c (a ++ [(x, y)]) cm cl := by
  obtain ⟨a1, a2, a3, a4, a5, a6, a7, a8, a9, a10⟩ := H
  refine ⟨a1, a2, a3, a4, ?_, row_snoc a6 (fun i hi => ?_) ?_, a7, a8, a9, a10⟩
  · show gA (sAk _ _ _ _ _) 46 p = _
    unfold sAk
    simp only [gI_sI, gI_sA, gI_sL, gI_sJ, gI_sR, gI_sQ, gI_sD, gI_sN, gI_sz, gA_sI, gA_sA, gA_sL, gA_sJ, gA_sR, gA_sQ, gA_sD, gA_sN, gA_sz, gL_sI, gL_sA, gL_sL, gL_sJ, gL_sR, gL_sQ, gL_sD, gL_sN, gL_sz, gJ_sI, gJ_sA, gJ_sL, gJ_sJ, gJ_sR, gJ_sQ, gJ_sD, gJ_sN, gJ_sz, gR_sI, gR_sA, gR_sL, gR_sJ, gR_sR, gR_sQ, gR_sD, gR_sN, gR_sz, gQ_sI, gQ_sA, gQ_sL, gQ_sJ, gQ_sR, gQ_sQ, gQ_sD, gQ_sN, gQ_sz, gD_sI, gD_sA, gD_sL, gD_sJ, gD_sR, gD_sQ, gD_sD, gD_sN, gD_sz, sz_sI, sz_sA, sz_sL, sz_sJ, sz_sR, sz_sQ, sz_sD, sz_sN, sz_sz, reduceIte, List.length_append, List.length_cons, List.length_nil]
  · unfold sAk
    have : ¬ 64 * p + i = 64 * p + a.length := by omega
    simp only [gI_sI, gI_sA, gI_sL, gI_sJ, gI_sR, gI_sQ, gI_sD, gI_sN, gI_sz, gA_sI, gA_sA, gA_sL, gA_sJ, gA_sR, gA_sQ, gA_sD, gA_sN, gA_sz, gL_sI, gL_sA, gL_sL, gL_sJ, gL_sR, gL_sQ, gL_sD, gL_sN, gL_sz, gJ_sI, gJ_sA, gJ_sL, gJ_sJ, gJ_sR, gJ_sQ, gJ_sD, gJ_sN, gJ_sz, gR_sI, gR_sA, gR_sL, gR_sJ, gR_sR, gR_sQ, gR_sD, gR_sN, gR_sz, gQ_sI, gQ_sA, gQ_sL, gQ_sJ, gQ_sR, gQ_sQ, gQ_sD, gQ_sN, gQ_sz, gD_sI, gD_sA, gD_sL, gD_sJ, gD_sR, gD_sQ, gD_sD, gD_sN, gD_sz, sz_sI, sz_sA, sz_sL, sz_sJ, sz_sR, sz_sQ, sz_sD, sz_sN, sz_sz, reduceIte, Nat.reduceEqDiff, this, and_self]
  · unfold sAk
    simp only [gI_sI, gI_sA, gI_sL, gI_sJ, gI_sR, gI_sQ, gI_sD, gI_sN, gI_sz, gA_sI, gA_sA, gA_sL, gA_sJ, gA_sR, gA_sQ, gA_sD, gA_sN, gA_sz, gL_sI, gL_sA, gL_sL, gL_sJ, gL_sR, gL_sQ, gL_sD, gL_sN, gL_sz, gJ_sI, gJ_sA, gJ_sL, gJ_sJ, gJ_sR, gJ_sQ, gJ_sD, gJ_sN, gJ_sz, gR_sI, gR_sA, gR_sL, gR_sJ, gR_sR, gR_sQ, gR_sD, gR_sN, gR_sz, gQ_sI, gQ_sA, gQ_sL, gQ_sJ, gQ_sR, gQ_sQ, gQ_sD, gQ_sN, gQ_sz, gD_sI, gD_sA, gD_sL, gD_sJ, gD_sR, gD_sQ, gD_sD, gD_sN, gD_sz, sz_sI, sz_sA, sz_sL, sz_sJ, sz_sR, sz_sQ, sz_sD, sz_sN, sz_sz, reduceIte, Nat.reduceEqDiff, and_self]
theorem MA.push (H : MA s v lv) : MA (sI (sA s 48 v.length (io x)) 2517 (io (v.length + 1))) (x :: v) lv := by
  obtain ⟨a1, a2, a3⟩ := H
  refine ⟨rfl, ⟨?_, stk_ext v (fun i hi => ?_) a2⟩, a3⟩
  · simp only [gI_sI, gI_sA, gI_sL, gI_sJ, gI_sR, gI_sQ, gI_sD, gI_sN, gI_sz, gA_sI, gA_sA, gA_sL, gA_sJ, gA_sR, gA_sQ, gA_sD, gA_sN, gA_sz, gL_sI, gL_sA, gL_sL, gL_sJ, gL_sR, gL_sQ, gL_sD, gL_sN, gL_sz, gJ_sI, gJ_sA, gJ_sL, gJ_sJ, gJ_sR, gJ_sQ, gJ_sD, gJ_sN, gJ_sz, gR_sI, gR_sA, gR_sL, gR_sJ, gR_sR, gR_sQ, gR_sD, gR_sN, gR_sz, gQ_sI, gQ_sA, gQ_sL, gQ_sJ, gQ_sR, gQ_sQ, gQ_sD, gQ_sN, gQ_sz, gD_sI, gD_sA, gD_sL, gD_sJ, gD_sR, gD_sQ, gD_sD, gD_sN, gD_sz, sz_sI, sz_sA, sz_sL, sz_sJ, sz_sR, sz_sQ, sz_sD, sz_sN, sz_sz, reduceIte]
  · simp only [gI_sI, gI_sA, gI_sL, gI_sJ, gI_sR, gI_sQ, gI_sD, gI_sN, gI_sz, gA_sI, gA_sA, gA_sL, gA_sJ, gA_sR, gA_sQ, gA_sD, gA_sN, gA_sz, gL_sI, gL_sA, gL_sL, gL_sJ, gL_sR, gL_sQ, gL_sD, gL_sN, gL_sz, gJ_sI, gJ_sA, gJ_sL, gJ_sJ, gJ_sR, gJ_sQ, gJ_sD, gJ_sN, gJ_sz, gR_sI, gR_sA, gR_sL, gR_sJ, gR_sR, gR_sQ, gR_sD, gR_sN, gR_sz, gQ_sI, gQ_sA, gQ_sL, gQ_sJ, gQ_sR, gQ_sQ, gQ_sD, gQ_sN, gQ_sz, gD_sI, gD_sA, gD_sL, gD_sJ, gD_sR, gD_sQ, gD_sD, gD_sN, gD_sz, sz_sI, sz_sA, sz_sL, sz_sJ, sz_sR, sz_sQ, sz_sD, sz_sN, sz_sz, reduceIte]; rw [if_neg (by omega)]
theorem MA.pop (H : MA s (x :: v) lv) : MA (sI s 2517 (io v.length)) v lv := ⟨rfl, H.2.1.2, H.2.2⟩
theorem MB.sk (H : MB s p w c a cm cl) {i : Nat} : MB (sA s 48 i z) p w c a cm cl := H
theorem MA.cd (H : MA s v lv) : MA (sCd s p x y k) v lv := H
theorem MA.ak (H : MA s v lv) : MA (sAk s p x y k) v lv := H
theorem FM.cd {E : List Nat} {s0 : St} {m : Nat} (h : FM E p s0 s) (hm : m < 64) : FM E p s0 (sCd s p m x y) := ((h.C (Or.inl rfl) hm).C (Or.inr (Or.inl rfl)) hm).K (Or.inl rfl)
theorem FM.ak {E : List Nat} {s0 : St} {m : Nat} (h : FM E p s0 s) (hm : m < 64) : FM E p s0 (sAk s p m x y) := ((h.C (Or.inr (Or.inr (Or.inl rfl))) hm).C (Or.inr (Or.inr (Or.inr rfl))) hm).K (Or.inr rfl)
end MBS
theorem puts_eq {F p cm x y : Nat} {s : St} {w cl : List Nat} {c a : List PR} (H : MB s p w c a cm cl) (hc : c.length < 64) : f_M_puts F s (io x) (io y) = some (sCd s p c.length x y) := by
  obtain ⟨a1, a2, a3, -⟩ := H
  simp (disch := omega) only [f_M_puts, Option.bind_some, Nat.reduceEqDiff, Nat.add_zero, Nat.zero_add, Nat.reduceLT, Nat.reduceLeDiff, Nat.reduceAdd, Nat.reduceSub, Nat.reduceMul, Nat.reduceDiv, Nat.lt_irrefl, Nat.not_lt_zero, Nat.zero_le, Nat.one_ne_zero, Nat.succ_ne_zero,  lt_def, i32_lit, reduceIte, P_isIn_eq, M_isIn_eq, M_goes_eq, or_false, false_or, or_true, true_or, and_true, true_and, and_false, false_and, not_true, not_false_eq_true, eq_self, if_true, if_false, not_or, not_and, Nat.not_lt, Nat.not_le, a2, ix_io, a3, io_mul, io_add, gI_sI, gI_sA, gI_sL, gI_sJ, gI_sR, gI_sQ, gI_sD, gI_sN, gI_sz, gA_sI, gA_sA, gA_sL, gA_sJ, gA_sR, gA_sQ, gA_sD, gA_sN, gA_sz, gL_sI, gL_sA, gL_sL, gL_sJ, gL_sR, gL_sQ, gL_sD, gL_sN, gL_sz, gJ_sI, gJ_sA, gJ_sL, gJ_sJ, gJ_sR, gJ_sQ, gJ_sD, gJ_sN, gJ_sz, gR_sI, gR_sA, gR_sL, gR_sJ, gR_sR, gR_sQ, gR_sD, gR_sN, gR_sz, gQ_sI, gQ_sA, gQ_sL, gQ_sJ, gQ_sR, gQ_sQ, gQ_sD, gQ_sN, gQ_sz, gD_sI, gD_sA, gD_sL, gD_sJ, gD_sR, gD_sQ, gD_sD, gD_sN, gD_sz, sz_sI, sz_sA, sz_sL, sz_sJ, sz_sR, sz_sQ, sz_sD, sz_sN, sz_sz]
  rfl
theorem putsAsk_eq {F p cm x y : Nat} {s : St} {w cl : List Nat} {c a : List PR} (H : MB s p w c a cm cl) (hc : a.length < 64) : f_M_putsAsk F s (io x) (io y) = some (sAk s p a.length x y) := by
  obtain ⟨a1, a2, a3, a4, a5, -⟩ := H
  simp (disch := omega) only [f_M_putsAsk, Option.bind_some, Nat.reduceEqDiff, Nat.add_zero, Nat.zero_add, Nat.reduceLT, Nat.reduceLeDiff, Nat.reduceAdd, Nat.reduceSub, Nat.reduceMul, Nat.reduceDiv, Nat.lt_irrefl, Nat.not_lt_zero, Nat.zero_le, Nat.one_ne_zero, Nat.succ_ne_zero,  lt_def, i32_lit, reduceIte, P_isIn_eq, M_isIn_eq, M_goes_eq, or_false, false_or, or_true, true_or, and_true, true_and, and_false, false_and, not_true, not_false_eq_true, eq_self, if_true, if_false, not_or, not_and, Nat.not_lt, Nat.not_le, a2, ix_io, a5, io_mul, io_add, gI_sI, gI_sA, gI_sL, gI_sJ, gI_sR, gI_sQ, gI_sD, gI_sN, gI_sz, gA_sI, gA_sA, gA_sL, gA_sJ, gA_sR, gA_sQ, gA_sD, gA_sN, gA_sz, gL_sI, gL_sA, gL_sL, gL_sJ, gL_sR, gL_sQ, gL_sD, gL_sN, gL_sz, gJ_sI, gJ_sA, gJ_sL, gJ_sJ, gJ_sR, gJ_sQ, gJ_sD, gJ_sN, gJ_sz, gR_sI, gR_sA, gR_sL, gR_sJ, gR_sR, gR_sQ, gR_sD, gR_sN, gR_sz, gQ_sI, gQ_sA, gQ_sL, gQ_sJ, gQ_sR, gQ_sQ, gQ_sD, gQ_sN, gQ_sz, gD_sI, gD_sA, gD_sL, gD_sJ, gD_sR, gD_sQ, gD_sD, gD_sN, gD_sz, sz_sI, sz_sA, sz_sL, sz_sJ, sz_sR, sz_sQ, sz_sD, sz_sN, sz_sz]
  rfl
/-! ranks -/
def rkM (x : Nat) : Nat := if x = 42 ∨ x = 47 then 3 else if x = 43 ∨ x = 45 then 2 else if x = 60 ∨ x = 62 ∨ x = 61 then 1 else 0
def arM (x : Nat) : Nat := if x = 38 then 2 else if x = 124 then 1 else 0
theorem rank_eq {F x : Nat} {s : St} (hx : x < 1000) : f_M_rank F s (io x) = some (io (rkM x), s) := by
  unfold rkM
  by_cases h1 : x = 42
  · subst h1; simp (disch := omega) only [f_M_rank, Option.bind_some, Nat.reduceEqDiff, Nat.add_zero, Nat.zero_add, Nat.reduceLT, Nat.reduceLeDiff, Nat.reduceAdd, Nat.reduceSub, Nat.reduceMul, Nat.reduceDiv, Nat.lt_irrefl, Nat.not_lt_zero, Nat.zero_le, Nat.one_ne_zero, Nat.succ_ne_zero,  lt_def, i32_lit, reduceIte, P_isIn_eq, M_isIn_eq, M_goes_eq, or_false, false_or, or_true, true_or, and_true, true_and, and_false, false_and, not_true, not_false_eq_true, eq_self, if_true, if_false, not_or, not_and, Nat.not_lt, Nat.not_le, io_eq]
  · by_cases h2 : x = 47
    · subst h2; simp (disch := omega) only [f_M_rank, Option.bind_some, Nat.reduceEqDiff, Nat.add_zero, Nat.zero_add, Nat.reduceLT, Nat.reduceLeDiff, Nat.reduceAdd, Nat.reduceSub, Nat.reduceMul, Nat.reduceDiv, Nat.lt_irrefl, Nat.not_lt_zero, Nat.zero_le, Nat.one_ne_zero, Nat.succ_ne_zero,  lt_def, i32_lit, reduceIte, P_isIn_eq, M_isIn_eq, M_goes_eq, or_false, false_or, or_true, true_or, and_true, true_and, and_false, false_and, not_true, not_false_eq_true, eq_self, if_true, if_false, not_or, not_and, Nat.not_lt, Nat.not_le, io_eq]
    · by_cases h3 : x = 43
      · subst h3; simp (disch := omega) only [f_M_rank, Option.bind_some, Nat.reduceEqDiff, Nat.add_zero, Nat.zero_add, Nat.reduceLT, Nat.reduceLeDiff, Nat.reduceAdd, Nat.reduceSub, Nat.reduceMul, Nat.reduceDiv, Nat.lt_irrefl, Nat.not_lt_zero, Nat.zero_le, Nat.one_ne_zero, Nat.succ_ne_zero,  lt_def, i32_lit, reduceIte, P_isIn_eq, M_isIn_eq, M_goes_eq, or_false, false_or, or_true, true_or, and_true, true_and, and_false, false_and, not_true, not_false_eq_true, eq_self, if_true, if_false, not_or, not_and, Nat.not_lt, Nat.not_le, io_eq]
      · by_cases h4 : x = 45
        · subst h4; simp (disch := omega) only [f_M_rank, Option.bind_some, Nat.reduceEqDiff, Nat.add_zero, Nat.zero_add, Nat.reduceLT, Nat.reduceLeDiff, Nat.reduceAdd, Nat.reduceSub, Nat.reduceMul, Nat.reduceDiv, Nat.lt_irrefl, Nat.not_lt_zero, Nat.zero_le, Nat.one_ne_zero, Nat.succ_ne_zero,  lt_def, i32_lit, reduceIte, P_isIn_eq, M_isIn_eq, M_goes_eq, or_false, false_or, or_true, true_or, and_true, true_and, and_false, false_and, not_true, not_false_eq_true, eq_self, if_true, if_false, not_or, not_and, Nat.not_lt, Nat.not_le, io_eq]
        · by_cases h5 : x = 60
          · subst h5; simp (disch := omega) only [f_M_rank, Option.bind_some, Nat.reduceEqDiff, Nat.add_zero, Nat.zero_add, Nat.reduceLT, Nat.reduceLeDiff, Nat.reduceAdd, Nat.reduceSub, Nat.reduceMul, Nat.reduceDiv, Nat.lt_irrefl, Nat.not_lt_zero, Nat.zero_le, Nat.one_ne_zero, Nat.succ_ne_zero,  lt_def, i32_lit, reduceIte, P_isIn_eq, M_isIn_eq, M_goes_eq, or_false, false_or, or_true, true_or, and_true, true_and, and_false, false_and, not_true, not_false_eq_true, eq_self, if_true, if_false, not_or, not_and, Nat.not_lt, Nat.not_le, io_eq]
          · by_cases h6 : x = 62
            · subst h6; simp (disch := omega) only [f_M_rank, Option.bind_some, Nat.reduceEqDiff, Nat.add_zero, Nat.zero_add, Nat.reduceLT, Nat.reduceLeDiff, Nat.reduceAdd, Nat.reduceSub, Nat.reduceMul, Nat.reduceDiv, Nat.lt_irrefl, Nat.not_lt_zero, Nat.zero_le, Nat.one_ne_zero, Nat.succ_ne_zero,  lt_def, i32_lit, reduceIte, P_isIn_eq, M_isIn_eq, M_goes_eq, or_false, false_or, or_true, true_or, and_true, true_and, and_false, false_and, not_true, not_false_eq_true, eq_self, if_true, if_false, not_or, not_and, Nat.not_lt, Nat.not_le, io_eq]
            · by_cases h7 : x = 61
              · subst h7; simp (disch := omega) only [f_M_rank, Option.bind_some, Nat.reduceEqDiff, Nat.add_zero, Nat.zero_add, Nat.reduceLT, Nat.reduceLeDiff, Nat.reduceAdd, Nat.reduceSub, Nat.reduceMul, Nat.reduceDiv, Nat.lt_irrefl, Nat.not_lt_zero, Nat.zero_le, Nat.one_ne_zero, Nat.succ_ne_zero,  lt_def, i32_lit, reduceIte, P_isIn_eq, M_isIn_eq, M_goes_eq, or_false, false_or, or_true, true_or, and_true, true_and, and_false, false_and, not_true, not_false_eq_true, eq_self, if_true, if_false, not_or, not_and, Nat.not_lt, Nat.not_le, io_eq]
              · simp (disch := omega) only [f_M_rank, Option.bind_some, Nat.reduceEqDiff, Nat.add_zero, Nat.zero_add, Nat.reduceLT, Nat.reduceLeDiff, Nat.reduceAdd, Nat.reduceSub, Nat.reduceMul, Nat.reduceDiv, Nat.lt_irrefl, Nat.not_lt_zero, Nat.zero_le, Nat.one_ne_zero, Nat.succ_ne_zero,  lt_def, i32_lit, reduceIte, P_isIn_eq, M_isIn_eq, M_goes_eq, or_false, false_or, or_true, true_or, and_true, true_and, and_false, false_and, not_true, not_false_eq_true, eq_self, if_true, if_false, not_or, not_and, Nat.not_lt, Nat.not_le, io_eq, h1, h2, h3, h4, h5, h6, h7, or_self]
theorem askRank_eq {F x : Nat} {s : St} (hx : x < 1000) : f_M_askRank F s (io x) = some (io (arM x), s) := by
  unfold arM
  by_cases h1 : x = 38
  · subst h1; simp (disch := omega) only [f_M_askRank, Option.bind_some, Nat.reduceEqDiff, Nat.add_zero, Nat.zero_add, Nat.reduceLT, Nat.reduceLeDiff, Nat.reduceAdd, Nat.reduceSub, Nat.reduceMul, Nat.reduceDiv, Nat.lt_irrefl, Nat.not_lt_zero, Nat.zero_le, Nat.one_ne_zero, Nat.succ_ne_zero,  lt_def, i32_lit, reduceIte, P_isIn_eq, M_isIn_eq, M_goes_eq, or_false, false_or, or_true, true_or, and_true, true_and, and_false, false_and, not_true, not_false_eq_true, eq_self, if_true, if_false, not_or, not_and, Nat.not_lt, Nat.not_le, io_eq]
  · by_cases h2 : x = 124
    · subst h2; simp (disch := omega) only [f_M_askRank, Option.bind_some, Nat.reduceEqDiff, Nat.add_zero, Nat.zero_add, Nat.reduceLT, Nat.reduceLeDiff, Nat.reduceAdd, Nat.reduceSub, Nat.reduceMul, Nat.reduceDiv, Nat.lt_irrefl, Nat.not_lt_zero, Nat.zero_le, Nat.one_ne_zero, Nat.succ_ne_zero,  lt_def, i32_lit, reduceIte, P_isIn_eq, M_isIn_eq, M_goes_eq, or_false, false_or, or_true, true_or, and_true, true_and, and_false, false_and, not_true, not_false_eq_true, eq_self, if_true, if_false, not_or, not_and, Nat.not_lt, Nat.not_le, io_eq]
    · simp (disch := omega) only [f_M_askRank, Option.bind_some, Nat.reduceEqDiff, Nat.add_zero, Nat.zero_add, Nat.reduceLT, Nat.reduceLeDiff, Nat.reduceAdd, Nat.reduceSub, Nat.reduceMul, Nat.reduceDiv, Nat.lt_irrefl, Nat.not_lt_zero, Nat.zero_le, Nat.one_ne_zero, Nat.succ_ne_zero,  lt_def, i32_lit, reduceIte, P_isIn_eq, M_isIn_eq, M_goes_eq, or_false, false_or, or_true, true_or, and_true, true_and, and_false, false_and, not_true, not_false_eq_true, eq_self, if_true, if_false, not_or, not_and, Nat.not_lt, Nat.not_le, io_eq, h1, h2]
theorem rkM_le (x : Nat) : rkM x ≤ 3 := by unfold rkM; repeat (first | omega | split)
theorem arM_le (x : Nat) : arM x ≤ 2 := by unfold arM; repeat (first | omega | split)
/-! the piles are put down -/
def flN : List Nat → List PR → List Nat × List PR
  | [], c => ([], c)
  | x :: w, c => if x = 2 then flN w (c ++ [(2, 0)]) else (x :: w, c)
def flR (r : Nat) : List Nat → List PR → List Nat × List PR
  | [], c => ([], c)
  | x :: w, c => if rkM x < r then (x :: w, c) else flR r w (c ++ [(x, 0)])
def flT : List Nat → List PR → List Nat × List PR
  | [], c => ([], c)
  | x :: w, c => if x = 33 then flT w (c ++ [(33, 0)]) else (x :: w, c)
def flA (r : Nat) : List Nat → List PR → List Nat × List PR
  | [], c => ([], c)
  | x :: w, c => if arM x < r then (x :: w, c) else flA r w (c ++ [(x, 0)])
def ltq (w : List Nat) : Prop := ∀ x ∈ w, x < 1000
theorem ltq.tl {x : Nat} {w : List Nat} (h : ltq (x :: w)) : ltq w := fun y hy => h y (List.mem_cons_of_mem _ hy)
theorem ltq.hd {x : Nat} {w : List Nat} (h : ltq (x :: w)) : x < 1000 := h x List.mem_cons_self
theorem endsUnit_eq {F p cm : Nat} {a : List PR} {cl : List Nat} : ∀ (w : List Nat) (m : Nat) (s : St) (c : List PR), MB s p w c a cm cl → ltq w → w.length < m → c.length + w.length ≤ 63 → ∃ s', f_M_endsUnit_b0 F m s = some s' ∧ MB s' p (flN w c).1 (flN w c).2 a cm cl ∧ gI s' 2505 = io 2 ∧ FM [2505, 2515] p s s' := by
  intro w
  induction w with
  | nil =>
    intro m s c H hl hm hc
    obtain ⟨m, rfl⟩ : ∃ m', m = m' + 1 := ⟨m - 1, by omega⟩
    have e5 := H.2.2.2.2.2.2.1
    rw [List.length_nil] at e5
    refine ⟨sI s 2505 (io 2), ?_, H.I, rfl, FM.rf.I (by decide)⟩
    simp (disch := omega) only [f_M_endsUnit_b0, Option.bind_some, Nat.reduceEqDiff, Nat.add_zero, Nat.zero_add, Nat.reduceLT, Nat.reduceLeDiff, Nat.reduceAdd, Nat.reduceSub, Nat.reduceMul, Nat.reduceDiv, Nat.lt_irrefl, Nat.not_lt_zero, Nat.zero_le, Nat.one_ne_zero, Nat.succ_ne_zero,  lt_def, i32_lit, reduceIte, P_isIn_eq, M_isIn_eq, M_goes_eq, or_false, false_or, or_true, true_or, and_true, true_and, and_false, false_and, not_true, not_false_eq_true, eq_self, if_true, if_false, not_or, not_and, Nat.not_lt, Nat.not_le, e5, io_le, Nat.le_refl]
  | cons x w ih =>
    intro m s c H hl hm hc
    obtain ⟨m, rfl⟩ : ∃ m', m = m' + 1 := ⟨m - 1, by omega⟩
    have hc' : c.length + (w.length + 1) ≤ 63 := hc
    have e5 := H.2.2.2.2.2.2.1
    have e7 := H.2.2.2.2.2.2.2.1.1
    rw [List.length_cons] at e5
    have hx := hl.hd
    have n1 : ¬ w.length + 1 ≤ 0 := by omega
    unfold flN
    by_cases h2 : x = 2
    · subst h2
      have H2 := (H.pop).code (x := 2) (y := 0)
      obtain ⟨s', b1, b2, b3, b4⟩ := ih m _ _ H2 hl.tl (by show w.length < m; have : w.length + 1 < m + 1 := hm; omega) (by rw [List.length_append]; show c.length + 1 + w.length ≤ 63; omega)
      refine ⟨s', ?_, by rw [if_pos rfl]; exact b2, b3, (((FM.rf.I (k := 2515) (by decide)).cd (by omega))).trans b4⟩
      have e6 := puts_eq (F := F) (x := 2) (y := 0) H.pop (by omega)
      simp (disch := omega) only [f_M_endsUnit_b0, Option.bind_some, Nat.reduceEqDiff, Nat.add_zero, Nat.zero_add, Nat.reduceLT, Nat.reduceLeDiff, Nat.reduceAdd, Nat.reduceSub, Nat.reduceMul, Nat.reduceDiv, Nat.lt_irrefl, Nat.not_lt_zero, Nat.zero_le, Nat.one_ne_zero, Nat.succ_ne_zero,  lt_def, i32_lit, reduceIte, P_isIn_eq, M_isIn_eq, M_goes_eq, or_false, false_or, or_true, true_or, and_true, true_and, and_false, false_and, not_true, not_false_eq_true, eq_self, if_true, if_false, not_or, not_and, Nat.not_lt, Nat.not_le, e5, io_le, n1, io_sub, Nat.add_sub_cancel, ix_io, e7, e6]
      exact b1
    · refine ⟨sI s 2505 (io 2), ?_, by rw [if_neg h2]; exact H.I, rfl, FM.rf.I (by decide)⟩
      simp (disch := omega) only [f_M_endsUnit_b0, Option.bind_some, Nat.reduceEqDiff, Nat.add_zero, Nat.zero_add, Nat.reduceLT, Nat.reduceLeDiff, Nat.reduceAdd, Nat.reduceSub, Nat.reduceMul, Nat.reduceDiv, Nat.lt_irrefl, Nat.not_lt_zero, Nat.zero_le, Nat.one_ne_zero, Nat.succ_ne_zero,  lt_def, i32_lit, reduceIte, P_isIn_eq, M_isIn_eq, M_goes_eq, or_false, false_or, or_true, true_or, and_true, true_and, and_false, false_and, not_true, not_false_eq_true, eq_self, if_true, if_false, not_or, not_and, Nat.not_lt, Nat.not_le, e5, io_le, n1, io_sub, Nat.add_sub_cancel, ix_io, e7, io_eq, h2]
theorem putsW_eq {F p cm r : Nat} {a : List PR} {cl : List Nat} (hr : r < 10) : ∀ (w : List Nat) (m : Nat) (s : St) (c : List PR), MB s p w c a cm cl → ltq w → w.length < m → c.length + w.length ≤ 63 → ∃ s', f_M_putsWaiting_b0 F m s (io r) = some s' ∧ MB s' p (flR r w c).1 (flR r w c).2 a cm cl ∧ FM [2515] p s s' := by
  intro w
  induction w with
  | nil =>
    intro m s c H hl hm hc
    obtain ⟨m, rfl⟩ : ∃ m', m = m' + 1 := ⟨m - 1, by omega⟩
    have e5 := H.2.2.2.2.2.2.1
    rw [List.length_nil] at e5
    refine ⟨s, ?_, H, FM.rf⟩
    simp (disch := omega) only [f_M_putsWaiting_b0, Option.bind_some, Nat.reduceEqDiff, Nat.add_zero, Nat.zero_add, Nat.reduceLT, Nat.reduceLeDiff, Nat.reduceAdd, Nat.reduceSub, Nat.reduceMul, Nat.reduceDiv, Nat.lt_irrefl, Nat.not_lt_zero, Nat.zero_le, Nat.one_ne_zero, Nat.succ_ne_zero,  lt_def, i32_lit, reduceIte, P_isIn_eq, M_isIn_eq, M_goes_eq, or_false, false_or, or_true, true_or, and_true, true_and, and_false, false_and, not_true, not_false_eq_true, eq_self, if_true, if_false, not_or, not_and, Nat.not_lt, Nat.not_le, e5, io_le, Nat.le_refl]
  | cons x w ih =>
    intro m s c H hl hm hc
    obtain ⟨m, rfl⟩ : ∃ m', m = m' + 1 := ⟨m - 1, by omega⟩
    have hc' : c.length + (w.length + 1) ≤ 63 := hc
    have e5 := H.2.2.2.2.2.2.1
    have e7 := H.2.2.2.2.2.2.2.1.1
    rw [List.length_cons] at e5
    have hx := hl.hd
    have n1 : ¬ w.length + 1 ≤ 0 := by omega
    have hrk := rkM_le x
    have hra := rank_eq (F := F) (s := s) hx
    unfold flR
    by_cases h2 : rkM x < r
    · refine ⟨s, ?_, by rw [if_pos h2]; exact H, FM.rf⟩
      simp (disch := omega) only [f_M_putsWaiting_b0, Option.bind_some, Nat.reduceEqDiff, Nat.add_zero, Nat.zero_add, Nat.reduceLT, Nat.reduceLeDiff, Nat.reduceAdd, Nat.reduceSub, Nat.reduceMul, Nat.reduceDiv, Nat.lt_irrefl, Nat.not_lt_zero, Nat.zero_le, Nat.one_ne_zero, Nat.succ_ne_zero,  lt_def, i32_lit, reduceIte, P_isIn_eq, M_isIn_eq, M_goes_eq, or_false, false_or, or_true, true_or, and_true, true_and, and_false, false_and, not_true, not_false_eq_true, eq_self, if_true, if_false, not_or, not_and, Nat.not_lt, Nat.not_le, e5, io_le, n1, io_sub, Nat.add_sub_cancel, ix_io, e7, hra, io_lt, h2]
    · have H2 := (H.pop).code (x := x) (y := 0)
      obtain ⟨s', b1, b2, b4⟩ := ih m _ _ H2 hl.tl (by show w.length < m; have : w.length + 1 < m + 1 := hm; omega) (by rw [List.length_append]; show c.length + 1 + w.length ≤ 63; omega)
      refine ⟨s', ?_, by rw [if_neg h2]; exact b2, (((FM.rf.I (k := 2515) (by decide)).cd (by omega))).trans b4⟩
      have e6 := puts_eq (F := F) (x := x) (y := 0) H.pop (by omega)
      simp (disch := omega) only [f_M_putsWaiting_b0, Option.bind_some, Nat.reduceEqDiff, Nat.add_zero, Nat.zero_add, Nat.reduceLT, Nat.reduceLeDiff, Nat.reduceAdd, Nat.reduceSub, Nat.reduceMul, Nat.reduceDiv, Nat.lt_irrefl, Nat.not_lt_zero, Nat.zero_le, Nat.one_ne_zero, Nat.succ_ne_zero,  lt_def, i32_lit, reduceIte, P_isIn_eq, M_isIn_eq, M_goes_eq, or_false, false_or, or_true, true_or, and_true, true_and, and_false, false_and, not_true, not_false_eq_true, eq_self, if_true, if_false, not_or, not_and, Nat.not_lt, Nat.not_le, e5, io_le, n1, io_sub, Nat.add_sub_cancel, ix_io, e7, hra, io_lt, h2, gA_sI, gI_sI, e6]
      exact b1
theorem endsTerm_eq {F p cm lv : Nat} {c : List PR} {w cl : List Nat} : ∀ (v : List Nat) (m : Nat) (s : St) (a : List PR), MB s p w c a cm cl → MA s v lv → ltq v → v.length < m → a.length + v.length ≤ 63 → ∃ s', f_M_endsTerm_b0 F m s = some s' ∧ MB s' p w c (flT v a).2 cm cl ∧ MA s' (flT v a).1 lv ∧ gI s' 2505 = io 11 ∧ FM [2505, 2517] p s s' := by
  intro v
  induction v with
  | nil =>
    intro m s a H K hl hm hc
    obtain ⟨m, rfl⟩ : ∃ m', m = m' + 1 := ⟨m - 1, by omega⟩
    have e5 := K.1
    rw [List.length_nil] at e5
    refine ⟨sI s 2505 (io 11), ?_, H.I, K.I, rfl, FM.rf.I (by decide)⟩
    simp (disch := omega) only [f_M_endsTerm_b0, Option.bind_some, Nat.reduceEqDiff, Nat.add_zero, Nat.zero_add, Nat.reduceLT, Nat.reduceLeDiff, Nat.reduceAdd, Nat.reduceSub, Nat.reduceMul, Nat.reduceDiv, Nat.lt_irrefl, Nat.not_lt_zero, Nat.zero_le, Nat.one_ne_zero, Nat.succ_ne_zero,  lt_def, i32_lit, reduceIte, P_isIn_eq, M_isIn_eq, M_goes_eq, or_false, false_or, or_true, true_or, and_true, true_and, and_false, false_and, not_true, not_false_eq_true, eq_self, if_true, if_false, not_or, not_and, Nat.not_lt, Nat.not_le, e5, io_le, Nat.le_refl]
  | cons x v ih =>
    intro m s a H K hl hm hc
    obtain ⟨m, rfl⟩ : ∃ m', m = m' + 1 := ⟨m - 1, by omega⟩
    have hc' : a.length + (v.length + 1) ≤ 63 := hc
    have e5 := K.1
    have e7 := K.2.1.1
    rw [List.length_cons] at e5
    have hx := hl.hd
    have n1 : ¬ v.length + 1 ≤ 0 := by omega
    unfold flT
    by_cases h2 : x = 33
    · subst h2
      have H2 : MB (sAk (sI s 2517 (io v.length)) p a.length 33 0) p w c (a ++ [(33, 0)]) cm cl := (H.I (k := 2517) (z := io v.length)).ask
      have K2 : MA (sAk (sI s 2517 (io v.length)) p a.length 33 0) v lv := K.pop
      obtain ⟨s', b1, b2, b3, b4, b5⟩ := ih m _ _ H2 K2 hl.tl (by show v.length < m; have : v.length + 1 < m + 1 := hm; omega) (by rw [List.length_append]; show a.length + 1 + v.length ≤ 63; omega)
      refine ⟨s', ?_, by rw [if_pos rfl]; exact b2, by rw [if_pos rfl]; exact b3, b4, (((FM.rf.I (k := 2517) (by decide)).ak (by omega))).trans b5⟩
      have e6 := putsAsk_eq (F := F) (x := 33) (y := 0) (H.I (k := 2517) (z := io v.length)) (by omega)
      simp (disch := omega) only [f_M_endsTerm_b0, Option.bind_some, Nat.reduceEqDiff, Nat.add_zero, Nat.zero_add, Nat.reduceLT, Nat.reduceLeDiff, Nat.reduceAdd, Nat.reduceSub, Nat.reduceMul, Nat.reduceDiv, Nat.lt_irrefl, Nat.not_lt_zero, Nat.zero_le, Nat.one_ne_zero, Nat.succ_ne_zero,  lt_def, i32_lit, reduceIte, P_isIn_eq, M_isIn_eq, M_goes_eq, or_false, false_or, or_true, true_or, and_true, true_and, and_false, false_and, not_true, not_false_eq_true, eq_self, if_true, if_false, not_or, not_and, Nat.not_lt, Nat.not_le, e5, io_le, n1, io_sub, Nat.add_sub_cancel, ix_io, e7, e6]
      exact b1
    · refine ⟨sI s 2505 (io 11), ?_, by rw [if_neg h2]; exact H.I, by rw [if_neg h2]; exact K.I, rfl, FM.rf.I (by decide)⟩
      simp (disch := omega) only [f_M_endsTerm_b0, Option.bind_some, Nat.reduceEqDiff, Nat.add_zero, Nat.zero_add, Nat.reduceLT, Nat.reduceLeDiff, Nat.reduceAdd, Nat.reduceSub, Nat.reduceMul, Nat.reduceDiv, Nat.lt_irrefl, Nat.not_lt_zero, Nat.zero_le, Nat.one_ne_zero, Nat.succ_ne_zero,  lt_def, i32_lit, reduceIte, P_isIn_eq, M_isIn_eq, M_goes_eq, or_false, false_or, or_true, true_or, and_true, true_and, and_false, false_and, not_true, not_false_eq_true, eq_self, if_true, if_false, not_or, not_and, Nat.not_lt, Nat.not_le, e5, io_le, n1, io_sub, Nat.add_sub_cancel, ix_io, e7, io_eq, h2]
theorem putsA_eq {F p cm lv r : Nat} {c : List PR} {w cl : List Nat} (hr : r < 10) : ∀ (v : List Nat) (m : Nat) (s : St) (a : List PR), MB s p w c a cm cl → MA s v lv → ltq v → v.length < m → a.length + v.length ≤ 63 → ∃ s', f_M_putsAsked_b0 F m s (io r) = some s' ∧ MB s' p w c (flA r v a).2 cm cl ∧ MA s' (flA r v a).1 lv ∧ FM [2517] p s s' := by
  intro v
  induction v with
  | nil =>
    intro m s a H K hl hm hc
    obtain ⟨m, rfl⟩ : ∃ m', m = m' + 1 := ⟨m - 1, by omega⟩
    have e5 := K.1
    rw [List.length_nil] at e5
    refine ⟨s, ?_, H, K, FM.rf⟩
    simp (disch := omega) only [f_M_putsAsked_b0, Option.bind_some, Nat.reduceEqDiff, Nat.add_zero, Nat.zero_add, Nat.reduceLT, Nat.reduceLeDiff, Nat.reduceAdd, Nat.reduceSub, Nat.reduceMul, Nat.reduceDiv, Nat.lt_irrefl, Nat.not_lt_zero, Nat.zero_le, Nat.one_ne_zero, Nat.succ_ne_zero,  lt_def, i32_lit, reduceIte, P_isIn_eq, M_isIn_eq, M_goes_eq, or_false, false_or, or_true, true_or, and_true, true_and, and_false, false_and, not_true, not_false_eq_true, eq_self, if_true, if_false, not_or, not_and, Nat.not_lt, Nat.not_le, e5, io_le, Nat.le_refl]
  | cons x v ih =>
    intro m s a H K hl hm hc
    obtain ⟨m, rfl⟩ : ∃ m', m = m' + 1 := ⟨m - 1, by omega⟩
    have hc' : a.length + (v.length + 1) ≤ 63 := hc
    have e5 := K.1
    have e7 := K.2.1.1
    rw [List.length_cons] at e5
    have hx := hl.hd
    have n1 : ¬ v.length + 1 ≤ 0 := by omega
    have hrk := arM_le x
    have hra := askRank_eq (F := F) (s := s) hx
    unfold flA
    by_cases h2 : arM x < r
    · refine ⟨s, ?_, by rw [if_pos h2]; exact H, by rw [if_pos h2]; exact K, FM.rf⟩
      simp (disch := omega) only [f_M_putsAsked_b0, Option.bind_some, Nat.reduceEqDiff, Nat.add_zero, Nat.zero_add, Nat.reduceLT, Nat.reduceLeDiff, Nat.reduceAdd, Nat.reduceSub, Nat.reduceMul, Nat.reduceDiv, Nat.lt_irrefl, Nat.not_lt_zero, Nat.zero_le, Nat.one_ne_zero, Nat.succ_ne_zero,  lt_def, i32_lit, reduceIte, P_isIn_eq, M_isIn_eq, M_goes_eq, or_false, false_or, or_true, true_or, and_true, true_and, and_false, false_and, not_true, not_false_eq_true, eq_self, if_true, if_false, not_or, not_and, Nat.not_lt, Nat.not_le, e5, io_le, n1, io_sub, Nat.add_sub_cancel, ix_io, e7, hra, io_lt, h2]
    · have H2 : MB (sAk (sI s 2517 (io v.length)) p a.length x 0) p w c (a ++ [(x, 0)]) cm cl := (H.I (k := 2517) (z := io v.length)).ask
      have K2 : MA (sAk (sI s 2517 (io v.length)) p a.length x 0) v lv := K.pop
      obtain ⟨s', b1, b2, b3, b5⟩ := ih m _ _ H2 K2 hl.tl (by show v.length < m; have : v.length + 1 < m + 1 := hm; omega) (by rw [List.length_append]; show a.length + 1 + v.length ≤ 63; omega)
      refine ⟨s', ?_, by rw [if_neg h2]; exact b2, by rw [if_neg h2]; exact b3, (((FM.rf.I (k := 2517) (by decide)).ak (by omega))).trans b5⟩
      have e6 := putsAsk_eq (F := F) (x := x) (y := 0) (H.I (k := 2517) (z := io v.length)) (by omega)
      simp (disch := omega) only [f_M_putsAsked_b0, Option.bind_some, Nat.reduceEqDiff, Nat.add_zero, Nat.zero_add, Nat.reduceLT, Nat.reduceLeDiff, Nat.reduceAdd, Nat.reduceSub, Nat.reduceMul, Nat.reduceDiv, Nat.lt_irrefl, Nat.not_lt_zero, Nat.zero_le, Nat.one_ne_zero, Nat.succ_ne_zero,  lt_def, i32_lit, reduceIte, P_isIn_eq, M_isIn_eq, M_goes_eq, or_false, false_or, or_true, true_or, and_true, true_and, and_false, false_and, not_true, not_false_eq_true, eq_self, if_true, if_false, not_or, not_and, Nat.not_lt, Nat.not_le, e5, io_le, n1, io_sub, Nat.add_sub_cancel, ix_io, e7, hra, io_lt, h2, gA_sI, gI_sI, e6]
      exact b1
theorem flR_all {r : Nat} : ∀ (pd w : List Nat) (c : List PR), (∀ x ∈ pd, r ≤ rkM x) → (∀ x w', w = x :: w' → rkM x < r) → flR r (pd ++ w) c = (w, c ++ pd.map (fun x => (x, 0))) := by
  intro pd
  induction pd with
  | nil =>
    intro w c _ hw
    rw [List.nil_append, List.map_nil, List.append_nil]
    cases w with
    | nil => rfl
    | cons x w => unfold flR; rw [if_pos (hw x w rfl)]
  | cons x pd ih =>
    intro w c hp hw
    show flR r (x :: (pd ++ w)) c = _
    unfold flR
    have := hp x List.mem_cons_self
    rw [if_neg (by omega), ih w _ (fun y hy => hp y (List.mem_cons_of_mem _ hy)) hw, List.append_assoc]
    rfl
theorem flA_all {r : Nat} : ∀ (pd w : List Nat) (c : List PR), (∀ x ∈ pd, r ≤ arM x) → (∀ x w', w = x :: w' → arM x < r) → flA r (pd ++ w) c = (w, c ++ pd.map (fun x => (x, 0))) := by
  intro pd
  induction pd with
  | nil =>
    intro w c _ hw
    rw [List.nil_append, List.map_nil, List.append_nil]
    cases w with
    | nil => rfl
    | cons x w => unfold flA; rw [if_pos (hw x w rfl)]
  | cons x pd ih =>
    intro w c hp hw
    show flA r (x :: (pd ++ w)) c = _
    unfold flA
    have := hp x List.mem_cons_self
    rw [if_neg (by omega), ih w _ (fun y hy => hp y (List.mem_cons_of_mem _ hy)) hw, List.append_assoc]
    rfl
theorem flN_no {w : List Nat} {c : List PR} (hw : ∀ x w', w = x :: w' → x ≠ 2) : flN w c = (w, c) := by
  cases w with
  | nil => rfl
  | cons x w => unfold flN; rw [if_neg (hw x w rfl)]
theorem flT_no {w : List Nat} {c : List PR} (hw : ∀ x w', w = x :: w' → x ≠ 33) : flT w c = (w, c) := by
  cases w with
  | nil => rfl
  | cons x w => unfold flT; rw [if_neg (hw x w rfl)]
theorem flN_len : ∀ (w : List Nat) (c : List PR), (flN w c).2.length + (flN w c).1.length = c.length + w.length ∧ (ltq w → ltq (flN w c).1) := by
  intro w
  induction w with
  | nil => intro c; exact ⟨rfl, fun h => h⟩
  | cons x w ih =>
    intro c
    unfold flN
    by_cases h : x = 2
    · rw [if_pos h]
      obtain ⟨a, b⟩ := ih (c ++ [(2, 0)])
      rw [a, List.length_append]
      exact ⟨by show c.length + 1 + w.length = c.length + (w.length + 1); omega, fun hl => b hl.tl⟩
    · rw [if_neg h]; exact ⟨rfl, fun h => h⟩
theorem flT_len : ∀ (w : List Nat) (c : List PR), (flT w c).2.length + (flT w c).1.length = c.length + w.length ∧ (ltq w → ltq (flT w c).1) := by
  intro w
  induction w with
  | nil => intro c; exact ⟨rfl, fun h => h⟩
  | cons x w ih =>
    intro c
    unfold flT
    by_cases h : x = 33
    · rw [if_pos h]
      obtain ⟨a, b⟩ := ih (c ++ [(33, 0)])
      rw [a, List.length_append]
      exact ⟨by show c.length + 1 + w.length = c.length + (w.length + 1); omega, fun hl => b hl.tl⟩
    · rw [if_neg h]; exact ⟨rfl, fun h => h⟩
