/-! the picture of a state in the heap; dynamic cells; what a write and a birth do to it -/
/-- the types of a class's fields: 0 an int-like one, 1 a reference, 2 a long -/
def fty : Nat → List Nat := fun c => match c with
  | 0 => [1, 1, 1, 1, 1, 0, 0]
  | 1 => [1, 0, 1, 1, 0, 0]
  | 2 => [1, 1, 1, 1, 1, 1, 1, 1, 0, 0]
  | 3 => [0, 0, 1, 1]
  | 4 => [1, 0, 0]
  | 5 => [0, 1, 1, 1, 1, 1, 0]
  | 6 => [1, 0, 0, 0, 0, 0, 1, 1, 0, 0, 0]
  | 7 => [1, 1, 0]
  | 8 => [1, 0, 2, 0, 0, 0, 1]
  | 9 => [1]
  | 10 => [1, 0, 0, 1, 0, 1, 1, 1, 1, 1, 1, 1]
  | _ => []
def fv (B : Nat) (o : (Nat → Int32) × (Nat → Option Nat) × (Nat → Int64)) (j t : Nat) : Value := match t with
  | 0 => .int (o.1 j)
  | 1 => rfB B (o.2.1 j)
  | _ => .long (o.2.2 j)
def dyE (D : DD) (B : Nat) (c : Dy) : va_E := match c with
  | .inl o => .inr (o.1, (fty o.1).mapIdx (fun j t => fv B o.2 j t))
  | .inr (.inl a) => .inl (D.2 a.1, a.2.1, .inl a.2.2)
  | .inr (.inr (.inl a)) => .inl (D.2 2, a.1, .inr (.inl a.2))
  | .inr (.inr (.inr a)) => .inl (D.2 4, a.1, .inr (.inr (.inr (.inr (fun j => (a.2 j).map (B + ·))))))
def Pic (D : DD) (B : Nat) (w : Bool) (σ : St) (H : Heap) : Prop :=
  H.size = B + sz σ ∧ (∀ (k : Nat) (e : va_E), (cells D B w σ)[k]? = some e → va_at D.1 vwCl (B + k, e) H) ∧
  ∀ (q : Nat) (c : Dy), gD σ q = some c → (cells D B w σ).length ≤ q ∧ va_at D.1 vwCl (B + q, dyE D B c) H
theorem Pic.len {D : DD} {B : Nat} {w : Bool} {σ : St} {H : Heap} (h : Pic D B w σ H) : (cells D B w σ).length ≤ sz σ := by
  rcases Nat.eq_zero_or_pos (cells D B w σ).length with h0 | h0
  · omega
  · have h1 := h.2.1 ((cells D B w σ).length - 1) _ (List.getElem?_eq_getElem (by omega))
    have h2 := h1.lt
    have h3 := h.1
    dsimp only at h2
    omega
/-- a static cell is written -/
theorem Pic.put {D : DD} {B : Nat} {w : Bool} {σ σ1 : St} {H H1 : Heap} (h : Pic D B w σ H) {k : Nat} {e : va_E} (hc : cells D B w σ1 = (cells D B w σ).set k e) (hd : gD σ1 = gD σ) (hs : sz σ1 = sz σ)
    (he : va_at D.1 vwCl (B + k, e) H1) (hz : H1.size = H.size) (ho : ∀ q : Nat, q ≠ B + k → H1[q]? = H[q]?) (hk : k < (cells D B w σ).length) : Pic D B w σ1 H1 := by
  refine ⟨by rw [hz, hs]; exact h.1, fun j x hj => ?_, fun q c hq => ?_⟩
  · rw [hc, List.getElem?_set] at hj
    by_cases hkj : k = j
    · subst hkj
      rw [if_pos rfl] at hj
      rw [if_pos hk] at hj
      cases hj
      exact he
    · rw [if_neg hkj] at hj
      exact (h.2.1 j x hj).kept (ho _ (by dsimp only; omega))
  · rw [hd] at hq
    obtain ⟨h1, h2⟩ := h.2.2 q c hq
    refine ⟨by rw [hc, List.length_set]; exact h1, h2.kept (ho _ (by dsimp only; omega))⟩
/-- a dynamic cell is written -/
theorem Pic.putD {D : DD} {B : Nat} {w : Bool} {σ : St} {H H1 : Heap} (h : Pic D B w σ H) {q : Nat} {c0 c1 : Dy} (hq : gD σ q = some c0) (he : va_at D.1 vwCl (B + q, dyE D B c1) H1) (hz : H1.size = H.size) (ho : ∀ x : Nat, x ≠ B + q → H1[x]? = H[x]?) : Pic D B w (sD σ q c1) H1 := by
  have hc : cells D B w (sD σ q c1) = cells D B w σ := by cases w <;> rfl
  obtain ⟨hl, -⟩ := h.2.2 q c0 hq
  refine ⟨by rw [hz]; exact h.1, fun j x hj => ?_, fun a c ha => ?_⟩
  · rw [hc] at hj
    have hjl := (List.getElem?_eq_some_iff.mp hj).1
    exact (h.2.1 j x hj).kept (ho _ (by dsimp only; omega))
  · rw [hc]
    have ha' : ups (gD σ) q (some c1) a = some c := ha
    unfold ups at ha'
    by_cases e : a = q
    · rw [if_pos e] at ha'
      cases ha'
      subst e
      exact ⟨hl, he⟩
    · rw [if_neg e] at ha'
      obtain ⟨h1, h2⟩ := h.2.2 a c ha'
      exact ⟨h1, h2.kept (ho _ (by dsimp only; omega))⟩
/-- a cell is born -/
theorem Pic.born {D : DD} {B : Nat} {w : Bool} {σ : St} {H H1 : Heap} (h : Pic D B w σ H) {c1 : Dy} (he : va_at D.1 vwCl (H.size, dyE D B c1) H1) (hz : H1.size = H.size + 1) (ho : ∀ x : Nat, x < H.size → H1[x]? = H[x]?) : Pic D B w (sN σ c1) H1 := by
  have hc : cells D B w (sN σ c1) = cells D B w σ := by cases w <;> rfl
  have hl := h.len
  have h0 := h.1
  refine ⟨by rw [hz, h0]; rfl, fun j x hj => ?_, fun a c ha => ?_⟩
  · rw [hc] at hj
    exact (h.2.1 j x hj).kept (ho _ (h.2.1 j x hj).lt)
  · rw [hc]
    have ha' : ups (gD σ) (sz σ) (some c1) a = some c := ha
    unfold ups at ha'
    by_cases e : a = sz σ
    · rw [if_pos e] at ha'
      cases ha'
      subst e
      rw [h0] at he
      exact ⟨hl, he⟩
    · rw [if_neg e] at ha'
      obtain ⟨h1, h2⟩ := h.2.2 a c ha'
      exact ⟨h1, h2.kept (ho _ h2.lt)⟩
/-- more cells that nobody knows -/
theorem Pic.more {D : DD} {B : Nat} {w : Bool} {σ : St} {H H1 : Heap} (h : Pic D B w σ H) (hz : H.size ≤ H1.size) (ho : ∀ x : Nat, x < H.size → H1[x]? = H[x]?) : Pic D B w (sz' σ (H1.size - B)) H1 := by
  have hc : cells D B w (sz' σ (H1.size - B)) = cells D B w σ := by cases w <;> rfl
  have h0 := h.1
  refine ⟨show H1.size = B + (H1.size - B) by omega, fun j x hj => ?_, fun a c ha => ?_⟩
  · rw [hc] at hj
    exact (h.2.1 j x hj).kept (ho _ (h.2.1 j x hj).lt)
  · rw [hc]
    obtain ⟨h1, h2⟩ := h.2.2 a c ha
    exact ⟨h1, h2.kept (ho _ h2.lt)⟩
def V (Γ : Ga) (D : DD) (B : Nat) (w : Bool) (nL : Nat) (Q : State → Prop) (k n : Nat) (σ : St) (pc : Nat) (lv : List (Nat × Value)) (st : List Value) : Prop :=
  ∀ (H : Heap) (locs : List Loc) (ls : Array Slot) (cs ss : Nat), Pic D B w σ H → va_S (fun q => B ≤ q) (Gs Γ).heap H locs → lv_has ls nL lv → cs ≤ k → ss ≤ n → GW Γ H locs cs ss Q (F0 (Gm Γ) pc ls st)
/-- what a method asks of the machine's tables beside the words -/
def KK (D : DD) (U : State) : Prop := va_K D.1 vwCl (tyD D) U ∧ ∀ (a : String) (i : Nat) (x : MethodName) (h : String), Cond.methodLinkNest a i x h ∈ tables_1 → va_Nw (.methodLinkNest a i x h) U
theorem KK.moved {D : DD} {s U : State} (hW : s.WarmedH U.vm) (h : KK D s) : KK D U := ⟨va_K.moved hW.alike h.1, fun a i x q hq => va_Nw.warmM hW (h.2 a i x q hq)⟩
theorem KK.same {D : DD} {s U : State} (hv : s.vm = U.vm) (h : KK D s) : KK D U := ⟨va_K.moved (by rw [← hv]; exact Vm.Alike.refl s.vm) h.1, fun a i x q hq => va_Nw.same rfl hv (h.2 a i x q hq)⟩
/-- what is fixed in a walk -/
def Cx (Γ : Ga) (own : String) (cc : ByteArray) (nL : Nat) (D : DD) (B : Nat) (rm : Room) : Prop :=
  Γ.1.tables.exec = Jvm.exec ∧ (Gc Γ).code = cc ∧ (Gc Γ).maxLocals = nL ∧ (Gs Γ).vm.findClass own = some (Gm Γ).cls ∧ (∀ x ∈ WT, x.before (Ga' Γ) (Gs Γ) = true) ∧ KK D (Gs Γ) ∧ (Gme Γ).locks = false ∧ B ≤ (Gs Γ).heap.size ∧ GR Γ = rm
theorem Cx.w {Γ : Ga} {own : String} {cc : ByteArray} {nL : Nat} {D : DD} {B : Nat} {rm : Room} (X : Cx Γ own cc nL D B rm) {x : Cond} (h : x ∈ WT) : x.before (Ga' Γ) (Gs Γ) = true := X.2.2.2.2.1 x h
/-- the end of a method -/
def QR (D : DD) (B : Nat) (w : Bool) (σ' : St) (v : Option Value) : Array Value → State → Outcome → State → Prop := fun _ st o t => o = .returned v ∧ Pic D B w σ' t.heap ∧ va_F (fun q => B ≤ q) st t
/-- a method's contract: from the state σ it answers v and leaves σ', making at most mc cells of ms slots -/
def CC (w : Bool) (y : MethodName) (cy : Cond) (fr lo : Nat) (as : Nat → List Value) (σ : St) (v : Nat → Option Value) (σ' : St) (mc ms : Nat) : Prop :=
  ∀ (l : Launch) (D : DD) (B : Nat), Met l y (cy :: WT) { frames := fr, cells := mc, slots := ms, locals := lo } (va_Pc (as B) (fun U => Pic D B w σ U.heap ∧ KK D U)) (QR D B w σ' (v B)) mc ms (fun q => B ≤ q)
theorem ifp {α : Type} {c : Prop} [Decidable c] {a b z : α} (h : (if c then a else b) = z) (hc : c) : a = z := by rw [if_pos hc] at h; exact h
theorem ifn {α : Type} {c : Prop} [Decidable c] {a b z : α} (h : (if c then a else b) = z) (hc : ¬ c) : b = z := by rw [if_neg hc] at h; exact h
theorem bnd {α β : Type} {o : Option α} {K : α → Option β} {z : β} {P : Prop} (h : o.bind K = some z) (k : ∀ x, o = some x → K x = some z → P) : P := by
  cases o with
  | none => cases h
  | some x => exact k x rfl h
theorem CC.of {w : Bool} {y : MethodName} {bytes : ByteArray} {maxL : Nat} {ret : Option FieldType} {fr lo : Nat} {as : Nat → List Value} {σ : St} {v : Nat → Option Value} {σ' : St} {mc ms : Nat} (lv : Nat → List (Nat × Value))
    (hy : plainName y.cls = true) (hlv : ∀ B, lv_args 0 (as B) = lv B) (hln : ∀ B, (lg_sl (as B)).length ≤ maxL)
    (hV : ∀ (Γ : Ga) (D : DD) (B : Nat), Cx Γ y.cls bytes maxL D B { frames := fr, cells := mc, slots := ms, locals := lo } → (Gme Γ).sig.returnType = ret → (Gme Γ).name = y.name → V Γ D B w maxL (MQ (Gb Γ) (QR D B w σ' (v B)) (Ga' Γ) (Gs Γ) mc ms (fun q => B ≤ q)) 0 0 σ 0 (lv B) []) :
    CC w y (Cond.code y bytes maxL ret) fr lo as σ v σ' mc ms := by
  intro l D B
  refine Met.ofW (cc := bytes) (maxL := maxL) (ret := ret) hy rfl ?_
  intro p e s m args below meth c s₁ Bd hml hv
  obtain ⟨rfl, hP, hK⟩ := hv
  have hts := atoms_spec (ws := Cond.code y bytes maxL ret :: WT) Bd.pre
  have hown : s.vm.findClass y.cls = some m.cls := findClass_of_methodNamed Bd.named
  have hl := lv_entry (as B) (n := maxL) (hln B)
  rw [lg_entry_eq]
  rw [hlv B] at hl
  have hB : B ≤ s.heap.size := by rw [hP.1]; omega
  exact hV (p, l, e, _, s, m, _, below, meth, c) D B ⟨Bd.exec, Bd.bytes, hml, hown, fun x hx => hts x (List.mem_cons_of_mem _ hx), hK, Bd.notSynchronized, hB, rfl⟩ Bd.returns (name_of_methodNamed Bd.named Bd.method).1 s.heap [] _ 0 0 hP va_S.rf hl (Nat.le_refl _) (Nat.le_refl _)
