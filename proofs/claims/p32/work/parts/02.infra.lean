/-! THE LAYER OF THIS CLAIM: words, state, picture, one judgement V for all walks -/
def WT : List Cond := lw_tbl.filter goodWord
theorem WT_in {w : Cond} (h : w ∈ lw_tbl) (hg : goodWord w = true) : w ∈ WT := List.mem_filter.mpr ⟨h, hg⟩
theorem WT_good {cx cy : Cond} (h : cy ∈ WT) : GoodIn (cx :: WT) (cy :: WT) := by
  intro w hw
  have h1 : w ∈ WT := by
    rcases List.mem_cons.mp hw with rfl | h2
    · exact h
    · exact h2
  exact ⟨List.mem_cons_of_mem _ h1, good_of_word (List.mem_filter.mp h1).2⟩
/-- a dynamic cell: an object (its class, its ints, its references, its longs), an int-like array (its type, length, values), a long array, an array of references -/
abbrev Dy : Type := (Nat × (Nat → Int32) × (Nat → Option Nat) × (Nat → Int64)) ⊕ (Nat × Nat × (Nat → Int32)) ⊕ (Nat × (Nat → Int64)) ⊕ (Nat × (Nat → Option Nat))
/-- the state: ints, int arrays, longs, long arrays, references, reference arrays, dynamic cells, how many cells -/
abbrev St : Type := (Nat → Int32) × (Nat → Nat → Int32) × (Nat → Int64) × (Nat → Nat → Int64) × (Nat → Option Nat) × (Nat → Nat → Option Nat) × (Nat → Option Dy) × Nat
def ups {α : Type} (f : Nat → α) (k : Nat) (x : α) : Nat → α := fun j => if j = k then x else f j
def gI (σ : St) : Nat → Int32 := σ.1
def gA (σ : St) : Nat → Nat → Int32 := σ.2.1
def gL (σ : St) : Nat → Int64 := σ.2.2.1
def gJ (σ : St) : Nat → Nat → Int64 := σ.2.2.2.1
def gR (σ : St) : Nat → Option Nat := σ.2.2.2.2.1
def gQ (σ : St) : Nat → Nat → Option Nat := σ.2.2.2.2.2.1
def gD (σ : St) : Nat → Option Dy := σ.2.2.2.2.2.2.1
def sz (σ : St) : Nat := σ.2.2.2.2.2.2.2
def sI (σ : St) (k : Nat) (x : Int32) : St := (ups (gI σ) k x, gA σ, gL σ, gJ σ, gR σ, gQ σ, gD σ, sz σ)
def sA (σ : St) (k i : Nat) (x : Int32) : St := (gI σ, ups (gA σ) k (ups (gA σ k) i x), gL σ, gJ σ, gR σ, gQ σ, gD σ, sz σ)
def sL (σ : St) (k : Nat) (x : Int64) : St := (gI σ, gA σ, ups (gL σ) k x, gJ σ, gR σ, gQ σ, gD σ, sz σ)
def sJ (σ : St) (k i : Nat) (x : Int64) : St := (gI σ, gA σ, gL σ, ups (gJ σ) k (ups (gJ σ k) i x), gR σ, gQ σ, gD σ, sz σ)
def sR (σ : St) (k : Nat) (x : Option Nat) : St := (gI σ, gA σ, gL σ, gJ σ, ups (gR σ) k x, gQ σ, gD σ, sz σ)
def sQ (σ : St) (k i : Nat) (x : Option Nat) : St := (gI σ, gA σ, gL σ, gJ σ, gR σ, ups (gQ σ) k (ups (gQ σ k) i x), gD σ, sz σ)
def sD (σ : St) (q : Nat) (x : Dy) : St := (gI σ, gA σ, gL σ, gJ σ, gR σ, gQ σ, ups (gD σ) q (some x), sz σ)
def sN (σ : St) (x : Dy) : St := (gI σ, gA σ, gL σ, gJ σ, gR σ, gQ σ, ups (gD σ) (sz σ) (some x), sz σ + 1)
def sz' (σ : St) (n : Nat) : St := (gI σ, gA σ, gL σ, gJ σ, gR σ, gQ σ, gD σ, n)
/-- a reference, from the law's own base on -/
def rfB (B : Nat) (r : Option Nat) : Value := match r with
  | none => .null
  | some q => .ref (B + q)
theorem rfB_rf (B : Nat) (r : Option Nat) : rfB B r = va_rf (r.map (B + ·)) := by cases r <;> rfl
theorem rfB_or (B : Nat) (r : Option Nat) : rfB B r = .null ∨ ∃ a, rfB B r = .ref a := by cases r with
  | none => exact Or.inl rfl
  | some q => exact Or.inr ⟨_, rfl⟩
abbrev DD : Type := va_G × (Nat → ClassId)
abbrev Ga : Type := Program × Launch × Env × Room × State × MethodId × Array Value × List Frame × Method × Code
abbrev GW (Γ : Ga) (H : Heap) (locs : List Loc) (cells slots : Nat) (Q : State → Prop) (g : JFrame) : Prop :=
  W Γ.1 Γ.2.1 Γ.2.2.1 Γ.2.2.2.1 Γ.2.2.2.2.1 Γ.2.2.2.2.2.1 Γ.2.2.2.2.2.2.1 Γ.2.2.2.2.2.2.2.1 Γ.2.2.2.2.2.2.2.2.1 Γ.2.2.2.2.2.2.2.2.2 H locs cells slots Q g
abbrev GR (Γ : Ga) : Room := Γ.2.2.2.1
abbrev Gs (Γ : Ga) : State := Γ.2.2.2.2.1
abbrev Gm (Γ : Ga) : MethodId := Γ.2.2.2.2.2.1
abbrev Ga' (Γ : Ga) : Array Value := Γ.2.2.2.2.2.2.1
abbrev Gb (Γ : Ga) : List Frame := Γ.2.2.2.2.2.2.2.1
abbrev Gme (Γ : Ga) : Method := Γ.2.2.2.2.2.2.2.2.1
abbrev Gc (Γ : Ga) : Code := Γ.2.2.2.2.2.2.2.2.2
/-- a named step of a function's text -/
def lt {α β : Type} (e : α) (f : α → β) : β := f e
theorem ltb {α β : Type} {e : α} {f : α → β} {z : β} (h : lt e f = z) : f e = z := h
