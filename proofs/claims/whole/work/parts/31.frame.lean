/-! what stays when some numbers and rows are written -/
def Fr (eI eA : List Nat) (s s' : St) : Prop := (∀ k, k ∉ eI → gI s' k = gI s k) ∧ (∀ k, k ∉ eA → gA s' k = gA s k) ∧ gQ s' = gQ s ∧ gD s' = gD s ∧ sz s ≤ sz s'
theorem Fr.rf {eI eA : List Nat} {s : St} : Fr eI eA s s := ⟨fun _ _ => rfl, fun _ _ => rfl, rfl, rfl, Nat.le_refl _⟩
theorem Fr.trans {eI eA : List Nat} {s s1 s2 : St} (h : Fr eI eA s s1) (h2 : Fr eI eA s1 s2) : Fr eI eA s s2 :=
  ⟨fun k hk => (h2.1 k hk).trans (h.1 k hk), fun k hk => (h2.2.1 k hk).trans (h.2.1 k hk), h2.2.2.1.trans h.2.2.1, h2.2.2.2.1.trans h.2.2.2.1, Nat.le_trans h.2.2.2.2 h2.2.2.2.2⟩
theorem Fr.wide {eI eA eI' eA' : List Nat} {s s1 : St} (h : Fr eI eA s s1) (h1 : ∀ k ∈ eI, k ∈ eI') (h2 : ∀ k ∈ eA, k ∈ eA') : Fr eI' eA' s s1 :=
  ⟨fun k hk => h.1 k (fun h9 => hk (h1 k h9)), fun k hk => h.2.1 k (fun h9 => hk (h2 k h9)), h.2.2⟩
theorem Fr.I {eI eA : List Nat} {s s1 : St} (h : Fr eI eA s s1) {k : Nat} {x : Int32} (hk : k ∈ eI) : Fr eI eA s (sI s1 k x) :=
  ⟨fun j hj => by rw [gI_sI, if_neg (fun e : j = k => hj (by rw [e]; exact hk))]; exact h.1 j hj, h.2⟩
theorem Fr.A {eI eA : List Nat} {s s1 : St} (h : Fr eI eA s s1) {k i : Nat} {x : Int32} (hk : k ∈ eA) : Fr eI eA s (sA s1 k i x) :=
  ⟨h.1, fun j hj => by
    have h9 := h.2.1 j hj
    funext a
    rw [gA_sA, if_neg (fun e : j = k => hj (by rw [e]; exact hk)), h9], h.2.2⟩
theorem Fr.J {eI eA : List Nat} {s s1 : St} (h : Fr eI eA s s1) {k i : Nat} {x : Int64} : Fr eI eA s (sJ s1 k i x) := ⟨h.1, h.2.1, h.2.2⟩
theorem Fr.L {eI eA : List Nat} {s s1 : St} (h : Fr eI eA s s1) {k : Nat} {x : Int64} : Fr eI eA s (sL s1 k x) := ⟨h.1, h.2.1, h.2.2⟩
theorem Fr.Z {eI eA : List Nat} {s s1 : St} (h : Fr eI eA s s1) {n : Nat} (hn : sz s1 ≤ n) : Fr eI eA s (sz' s1 n) := ⟨h.1, h.2.1, h.2.2.1, h.2.2.2.1, Nat.le_trans h.2.2.2.2 hn⟩
theorem Fr.gi {eI eA : List Nat} {s s1 : St} (h : Fr eI eA s s1) (k : Nat) (hk : k ∉ eI) : gI s1 k = gI s k := h.1 k hk
theorem Fr.ga {eI eA : List Nat} {s s1 : St} (h : Fr eI eA s s1) (k : Nat) (hk : k ∉ eA) : gA s1 k = gA s k := h.2.1 k hk
/-! the hour, the people, the text -/
def HH (s : St) (h : Nat) : Prop := h ≤ 1000 ∧ gI s 2 = io h ∧ gI s 2526 = io h
def PE (s : St) (n : Nat) : Prop := n ≤ 8 ∧ gI s 768 = io n ∧ gI s 2532 = io n
def TX (s : St) (n : Nat) : Prop := n ≤ 40 ∧ gI s 1 = io n ∧ gI s 2497 = io n ∧ ∀ j, j < n → gA s 1 j = gA s 40 j ∧ ∃ c, gA s 40 j = io c ∧ 32 ≤ c ∧ c ≤ 126
theorem HH.fr {eI eA : List Nat} {s s' : St} {h : Nat} (H : HH s h) (f : Fr eI eA s s') (d1 : 2 ∉ eI := by decide) (d2 : 2526 ∉ eI := by decide) : HH s' h := ⟨H.1, by rw [f.gi _ d1]; exact H.2.1, by rw [f.gi _ d2]; exact H.2.2⟩
theorem PE.fr {eI eA : List Nat} {s s' : St} {h : Nat} (H : PE s h) (f : Fr eI eA s s') (d1 : 768 ∉ eI := by decide) (d2 : 2532 ∉ eI := by decide) : PE s' h := ⟨H.1, by rw [f.gi _ d1]; exact H.2.1, by rw [f.gi _ d2]; exact H.2.2⟩
theorem TX.fr {eI eA : List Nat} {s s' : St} {n : Nat} (H : TX s n) (f : Fr eI eA s s') (d1 : 1 ∉ eI := by decide) (d2 : 2497 ∉ eI := by decide) (d3 : 1 ∉ eA := by decide) (d4 : 40 ∉ eA := by decide) : TX s' n :=
  ⟨H.1, by rw [f.gi _ d1]; exact H.2.1, by rw [f.gi _ d2]; exact H.2.2.1, by rw [f.ga _ d3, f.ga _ d4]; exact H.2.2.2⟩
/-! the rota -/
def nob (n : Nat) (x : Int32) : Prop := x = -io 1 ∨ ∃ q, q < n ∧ x = io q
def RO (s : St) (h n : Nat) : Prop := ∀ j, j < 126 → gA s 13 j = gA s 57 j ∧ nob n (gA s 57 j) ∧ (∃ v, v < 256 ∧ gA s 14 j = io v ∧ ∀ p, p < 8 → gA s 56 (126 * p + j) = io (if v.testBit p then 1 else 0)) ∧ gA s 15 j = gA s 58 j ∧ nob n (gA s 58 j) ∧ (h / 8 < j → gA s 58 j = -io 1)
def DB (s : St) (n d : Nat) : Prop := d ≤ 4000 ∧ gI s 774 = io d ∧ gI s 2548 = io d ∧ ∀ i, i < d → ∃ a b, a < n ∧ b < n ∧ gA s 16 i = io a ∧ gA s 17 i = io b ∧ gA s 69 i = io (8 * a + b)
theorem RO.fr {eI eA : List Nat} {s s' : St} {h n : Nat} (H : RO s h n) (f : Fr eI eA s s') (d1 : 13 ∉ eA := by decide) (d2 : 57 ∉ eA := by decide) (d3 : 14 ∉ eA := by decide) (d4 : 56 ∉ eA := by decide) (d5 : 15 ∉ eA := by decide) (d6 : 58 ∉ eA := by decide) : RO s' h n := by
  unfold RO
  rw [f.ga _ d1, f.ga _ d2, f.ga _ d3, f.ga _ d4, f.ga _ d5, f.ga _ d6]
  exact H
theorem DB.fr {eI eA : List Nat} {s s' : St} {n d : Nat} (H : DB s n d) (f : Fr eI eA s s') (d1 : 774 ∉ eI := by decide) (d2 : 2548 ∉ eI := by decide) (d3 : 16 ∉ eA := by decide) (d4 : 17 ∉ eA := by decide) (d5 : 69 ∉ eA := by decide) : DB s' n d := by
  unfold DB
  rw [f.gi _ d1, f.gi _ d2, f.ga _ d3, f.ga _ d4, f.ga _ d5]
  exact H
/-! small functions -/
theorem hasPerson_eq {F n : Nat} {s : St} (hP : PE s n) (p : Int32) : f_Rota_hasPerson F s p = some (if io 0 ≤ p ∧ p < io n then 1 else 0, s) := by
  unfold f_Rota_hasPerson
  rw [hP.2.1, i32_lit]
  by_cases h1 : p < io 0
  · rw [if_pos h1, if_neg (fun h => by rw [← i32_nlt] at h; exact h.1 h1)]
  · have h2 : io 0 ≤ p := by rw [← i32_nlt]; exact h1
    rw [if_neg h1]
    by_cases h3 : io n ≤ p
    · rw [if_pos h3, if_neg (fun h => by rw [← i32_nle] at h; exact h.2 h3)]
    · rw [if_neg h3, if_pos ⟨h2, by rw [← i32_nle]; exact h3⟩]
theorem isPerson_eq {F n : Nat} {s : St} (hP : PE s n) (p : Int32) : f_M_isPerson F s p = some (if io 0 ≤ p ∧ p < io n then 1 else 0, s) := by
  unfold f_M_isPerson
  rw [M_isIn_eq, hP.2.2]
  have hn := hP.1
  have hb : ∀ x : Int32, (x = 0 ∨ x = 1) → ((some (x, s) : Option (Int32 × St)).bind fun x1 => if x1.1 = 0 ∨ x1.1 = 1 then some (x1.1, x1.2) else none) = some (x, s) := fun x hx => by
    show (if x = 0 ∨ x = 1 then some (x, s) else none) = _
    rw [if_pos hx]
  rw [hb _ (by by_cases hc : p < 0 ∨ io n - 1 < p <;> simp [hc])]
  have e : (if p < 0 ∨ io n - 1 < p then (0 : Int32) else 1) = if io 0 ≤ p ∧ p < io n then 1 else 0 := by
    by_cases h1 : io 0 ≤ p
    · obtain ⟨e, hl⟩ := io_of h1
      by_cases h3 : p < io n
      · rw [if_pos (show io 0 ≤ p ∧ p < io n from ⟨h1, h3⟩), if_neg]
        rintro (h | h)
        · rw [← i32_nlt] at h1; exact h1 h
        · rw [e] at h h3
          rw [io_lt hl (by omega)] at h3
          rw [i32_lit 1, io_sub (by omega), io_lt (by omega) hl] at h
          omega
      · rw [if_neg (show ¬ (io 0 ≤ p ∧ p < io n) from fun h => h3 h.2), if_pos]
        right
        rw [i32_nlt] at h3
        rw [e] at h3 ⊢
        rw [io_le (by omega) hl] at h3
        rcases Nat.eq_zero_or_pos n with rfl | hn0
        · rw [i32_lit 1, show io 0 - io 1 = -io 1 by decide]
          rw [neg1_lt hl]; trivial
        · rw [i32_lit 1, io_sub (by omega), io_lt (by omega) hl]; omega
    · rw [if_neg (show ¬ (io 0 ≤ p ∧ p < io n) from fun h => h1 h.1), if_pos]
      left
      rw [i32_nle] at h1
      exact h1
  rw [e]
theorem nowDiv {s : St} {h : Nat} (H : HH s h) : gI s 2 / 8 = io (h / 8) ∧ gI s 2526 / 8 = io (h / 8) := by
  have := H.1
  rw [H.2.1, H.2.2, i32_lit 8, io_div (by omega) (by omega)]
  exact ⟨rfl, rfl⟩
/-- is a shift to come -/
def toCome (h : Nat) (x : Int32) : Prop := ∃ j, x = io j ∧ h / 8 < j ∧ j < 126
theorem toCome_iff {h : Nat} (hh : h ≤ 1000) (x : Int32) : (io (h / 8) < x ∧ x < io 126) ↔ toCome h x := by
  constructor
  · rintro ⟨h1, h2⟩
    have h3 : io 0 ≤ x := by
      rw [Int32.lt_iff_toInt_lt, io_toInt (by omega)] at h1
      rw [Int32.le_iff_toInt_le, io_toInt (by omega)]
      omega
    obtain ⟨e, hl⟩ := io_of h3
    rw [e] at h1 h2
    rw [io_lt (by omega) hl] at h1
    rw [io_lt hl (by omega)] at h2
    exact ⟨_, e, h1, h2⟩
  · rintro ⟨j, rfl, h1, h2⟩
    rw [io_lt (by omega) (by omega), io_lt (by omega) (by omega)]
    exact ⟨h1, h2⟩
theorem P_isToCome_eq {F h : Nat} {s : St} (H : HH s h) (x : Int32) [Decidable (toCome h x)] : f_P_isToCome F s x = some (if toCome h x then 1 else 0, s) := by
  unfold f_P_isToCome
  rw [(nowDiv H).1, i32_lit 126]
  by_cases hc : toCome h x
  · have h9 := (toCome_iff H.1 x).mpr hc
    rw [if_pos hc, if_neg (by rw [i32_nle]; exact h9.1), if_neg (by rw [i32_nle]; exact h9.2)]
  · rw [if_neg hc]
    by_cases h1 : x ≤ io (h / 8)
    · rw [if_pos h1]
    · rw [if_neg h1]
      by_cases h2 : io 126 ≤ x
      · rw [if_pos h2]
      · rw [i32_nle] at h1 h2
        exact absurd ((toCome_iff H.1 x).mp ⟨h1, h2⟩) hc
theorem M_isToCome_eq {F h : Nat} {s : St} (H : HH s h) (x : Int32) [Decidable (toCome h x)] : f_M_isToCome F s x = some (if toCome h x then 1 else 0, s) := by
  unfold f_M_isToCome
  have hh := H.1
  rw [M_isIn_eq, (nowDiv H).2, i32_lit 1, i32_lit 125, io_add]
  by_cases hc : toCome h x
  · rw [if_pos hc, if_neg]
    · rfl
    · obtain ⟨j, rfl, h1, h2⟩ := hc
      rw [io_lt (by omega) (by omega), io_lt (by omega) (by omega)]
      omega
  · rw [if_neg hc, if_pos]
    · rfl
    · refine Classical.byContradiction fun hn => hc ?_
      rw [not_or, i32_nlt, i32_nlt] at hn
      have h3 : io 0 ≤ x := by
        have h4 := hn.1
        rw [Int32.le_iff_toInt_le, io_toInt (by omega)] at h4 ⊢
        omega
      obtain ⟨e, hl⟩ := io_of h3
      rw [e] at hn
      rw [io_le (by omega) hl, io_le hl (by omega)] at hn
      exact ⟨_, e, by omega, by omega⟩
