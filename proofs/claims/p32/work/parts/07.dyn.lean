/-! rows of V over dynamic cells; births; calls; ends -/
def sF (σ : St) (o : Nat × (Nat → Int32) × (Nat → Option Nat) × (Nat → Int64)) (ci : Nat) (x : (Nat → Int32) × (Nat → Option Nat) × (Nat → Int64)) : St := sD σ o.1 (.inl (ci, x))
theorem ups_self {α : Type} {f : Nat → α} {k : Nat} {x : α} : ups f k x k = x := if_pos rfl
theorem catI (x : Int32) : (Value.int x).category = 1 := rfl
theorem catL (x : Int64) : (Value.long x).category = 2 := rfl
theorem catR (x : Nat) : (Value.ref x).category = 1 := rfl
theorem rfB_cat (B : Nat) (x : Option Nat) : (rfB B x).category = 1 := by cases x <;> rfl
section VD
variable {Γ : Ga} {D : DD} {B : Nat} {w : Bool} {own : String} {cc : ByteArray} {nL : Nat} {rm : Room} {Q : State → Prop} {k n : Nat} {σ : St} {pc : Nat} {lv : List (Nat × Value)} {st : List Value}
theorem b_dgetI (X : Cx Γ own cc nL D B rm) {x : Option Nat} {ci j idx N : Nat} {C : String} {T : u_T} {α : Type} {K : Nat × (Nat → Int32) × (Nat → Option Nat) × (Nat → Int64) → Option α} {z : α} (hc : vwCl[ci]? = some (C, T, N)) (hin : ∀ x ∈ u_ws C T N, x ∈ WT) (hj : j < N) (hl : Cond.fieldLink own idx (T j).1 (T j).2.1 (T j).2.2.1 ∈ WT) (ht : (fty ci)[j]? = some 0) (d : decode cc pc = .ok (.getfield idx, 3)) (hf : (dgo σ x ci).bind K = some z)
    (kk : ∀ o, K o = some z → V Γ D B w nL Q k n σ (pc + 3) lv (.int (o.2.1 j) :: st)) : V Γ D B w nL Q k n σ pc lv (rfB B x :: st) :=
  bnd hf fun o ho hz H locs ls cs ss hP hS hl2 hk hn => by
    obtain ⟨rfl, hq⟩ := dgo_some ho
    exact va_get X.1 X.2.1 X.2.2.2.2.1 hin X.2.2.2.1 X.2.2.2.2.2.1.1 (at1 (hP.2.2 _ _ hq).2) 0 rfl hc j hj (X.w hl) (fun _ h => h) (v := .int (o.2.1 j)) (fv_get ht) d (kk o hz H locs ls cs ss hP hS hl2 hk hn)
theorem b_dgetR (X : Cx Γ own cc nL D B rm) {x : Option Nat} {ci j idx N : Nat} {C : String} {T : u_T} {α : Type} {K : Nat × (Nat → Int32) × (Nat → Option Nat) × (Nat → Int64) → Option α} {z : α} (hc : vwCl[ci]? = some (C, T, N)) (hin : ∀ x ∈ u_ws C T N, x ∈ WT) (hj : j < N) (hl : Cond.fieldLink own idx (T j).1 (T j).2.1 (T j).2.2.1 ∈ WT) (ht : (fty ci)[j]? = some 1) (d : decode cc pc = .ok (.getfield idx, 3)) (hf : (dgo σ x ci).bind K = some z)
    (kk : ∀ o, K o = some z → V Γ D B w nL Q k n σ (pc + 3) lv (rfB B (o.2.2.1 j) :: st)) : V Γ D B w nL Q k n σ pc lv (rfB B x :: st) :=
  bnd hf fun o ho hz H locs ls cs ss hP hS hl2 hk hn => by
    obtain ⟨rfl, hq⟩ := dgo_some ho
    exact va_get X.1 X.2.1 X.2.2.2.2.1 hin X.2.2.2.1 X.2.2.2.2.2.1.1 (at1 (hP.2.2 _ _ hq).2) 0 rfl hc j hj (X.w hl) (fun _ h => h) (v := rfB B (o.2.2.1 j)) (fv_get ht) d (kk o hz H locs ls cs ss hP hS hl2 hk hn)
theorem w_dput (X : Cx Γ own cc nL D B rm) {x : Option Nat} {ci j idx N t : Nat} {C : String} {T : u_T} {v : Value} {ty : FieldType} {o : Nat × (Nat → Int32) × (Nat → Option Nat) × (Nat → Int64)} {o1 : (Nat → Int32) × (Nat → Option Nat) × (Nat → Int64)} (hc : vwCl[ci]? = some (C, T, N)) (hin : ∀ x ∈ u_ws C T N, x ∈ WT) (ty0 : Nat → FieldType) (hty : ∀ k, k < N → parseFieldDescriptor (T k).2.2.1 = some (ty0 k)) (hnm : ∀ a, a < N → ∀ b, b < N → a ≠ b → (T a).2.1 ≠ (T b).2.1)
    (hj : j < N) (hl : Cond.fieldLink own idx (T j).1 (T j).2.1 (T j).2.2.1 ∈ WT) (hfin : (T j).2.2.2 = false ∨ ((T j).2.2.2 = true ∧ (Gme Γ).name = "<init>" ∧ (T j).1 = own)) (hd : parseFieldDescriptor (T j).2.2.1 = some ty) (hn2 : narrow ty v = v) (hfit : fits ty v = true) (ht : (fty ci)[j]? = some t) (hv : fv B o1 j t = v) (ho1 : ∀ a u, a ≠ j → fv B o1 a u = fv B o.2 a u) (d : decode cc pc = .ok (.putfield idx, 3)) (ho : dgo σ x ci = some o)
    (kk : V Γ D B w nL Q k n (sF σ o ci o1) (pc + 3) lv st) : V Γ D B w nL Q k n σ pc lv (v :: rfB B x :: st) := by
  intro H locs ls cs ss hP hS hl2 hk hn
  obtain ⟨rfl, hq⟩ := dgo_some ho
  refine w_put X hS (Nat.le_add_right B o.1) (hP.2.2 _ _ hq).2 hc hin ty0 hty hnm hj hl hfin hd hn2 hfit ?_ d (fun H1 locs1 e1 z1 o2 hS1 => ?_)
  · rw [List.length_mapIdx]; exact (List.getElem?_eq_some_iff.mp ht).1
  · rw [← hv, fv_set ht ho1] at e1
    exact kk H1 locs1 ls cs ss (hP.putD hq (c1 := .inl (ci, o1)) e1 z1 o2) hS1 hl2 hk hn
theorem b_dputI (X : Cx Γ own cc nL D B rm) {x : Option Nat} {ci j idx N : Nat} {C : String} {T : u_T} {v : Int32} {ty : FieldType} {α : Type} {G : Nat × (Nat → Int32) × (Nat → Option Nat) × (Nat → Int64) → St → Option α} {z : α} (hc : vwCl[ci]? = some (C, T, N)) (hin : ∀ x ∈ u_ws C T N, x ∈ WT) (ty0 : Nat → FieldType) (hty : ∀ k, k < N → parseFieldDescriptor (T k).2.2.1 = some (ty0 k)) (hnm : ∀ a, a < N → ∀ b, b < N → a ≠ b → (T a).2.1 ≠ (T b).2.1)
    (hj : j < N) (hl : Cond.fieldLink own idx (T j).1 (T j).2.1 (T j).2.2.1 ∈ WT) (hfin : (T j).2.2.2 = false ∨ ((T j).2.2.2 = true ∧ (Gme Γ).name = "<init>" ∧ (T j).1 = own)) (hd : parseFieldDescriptor (T j).2.2.1 = some ty) (hn2 : narrow ty (.int v) = .int v) (hfit : fits ty (.int v) = true) (ht : (fty ci)[j]? = some 0) (d : decode cc pc = .ok (.putfield idx, 3)) (hf : ((dgo σ x ci).bind fun o => lt (sF σ o ci (ups o.2.1 j v, o.2.2)) (G o)) = some z)
    (kk : ∀ o s1, G o s1 = some z → V Γ D B w nL Q k n s1 (pc + 3) lv st) : V Γ D B w nL Q k n σ pc lv (.int v :: rfB B x :: st) :=
  bnd hf fun o ho hz => w_dput X hc hin ty0 hty hnm hj hl hfin hd hn2 hfit ht (congrArg Value.int ups_self) (fun a u hu => by unfold fv ups; split <;> simp [hu]) d ho (kk o _ hz)
theorem b_dputL (X : Cx Γ own cc nL D B rm) {x : Option Nat} {ci j idx N : Nat} {C : String} {T : u_T} {v : Int64} {ty : FieldType} {α : Type} {G : Nat × (Nat → Int32) × (Nat → Option Nat) × (Nat → Int64) → St → Option α} {z : α} (hc : vwCl[ci]? = some (C, T, N)) (hin : ∀ x ∈ u_ws C T N, x ∈ WT) (ty0 : Nat → FieldType) (hty : ∀ k, k < N → parseFieldDescriptor (T k).2.2.1 = some (ty0 k)) (hnm : ∀ a, a < N → ∀ b, b < N → a ≠ b → (T a).2.1 ≠ (T b).2.1)
    (hj : j < N) (hl : Cond.fieldLink own idx (T j).1 (T j).2.1 (T j).2.2.1 ∈ WT) (hfin : (T j).2.2.2 = false ∨ ((T j).2.2.2 = true ∧ (Gme Γ).name = "<init>" ∧ (T j).1 = own)) (hd : parseFieldDescriptor (T j).2.2.1 = some ty) (hn2 : narrow ty (.long v) = .long v) (hfit : fits ty (.long v) = true) (ht : (fty ci)[j]? = some 2) (d : decode cc pc = .ok (.putfield idx, 3)) (hf : ((dgo σ x ci).bind fun o => lt (sF σ o ci (o.2.1, o.2.2.1, ups o.2.2.2 j v)) (G o)) = some z)
    (kk : ∀ o s1, G o s1 = some z → V Γ D B w nL Q k n s1 (pc + 3) lv st) : V Γ D B w nL Q k n σ pc lv (.long v :: rfB B x :: st) :=
  bnd hf fun o ho hz => w_dput X hc hin ty0 hty hnm hj hl hfin hd hn2 hfit ht (congrArg Value.long ups_self) (fun a u hu => by unfold fv ups; split <;> simp [hu]) d ho (kk o _ hz)
theorem b_dputR (X : Cx Γ own cc nL D B rm) {x y : Option Nat} {ci j idx N : Nat} {C : String} {T : u_T} {ty : FieldType} {α : Type} {G : Nat × (Nat → Int32) × (Nat → Option Nat) × (Nat → Int64) → St → Option α} {z : α} (hc : vwCl[ci]? = some (C, T, N)) (hin : ∀ x ∈ u_ws C T N, x ∈ WT) (ty0 : Nat → FieldType) (hty : ∀ k, k < N → parseFieldDescriptor (T k).2.2.1 = some (ty0 k)) (hnm : ∀ a, a < N → ∀ b, b < N → a ≠ b → (T a).2.1 ≠ (T b).2.1)
    (hj : j < N) (hl : Cond.fieldLink own idx (T j).1 (T j).2.1 (T j).2.2.1 ∈ WT) (hfin : (T j).2.2.2 = false ∨ ((T j).2.2.2 = true ∧ (Gme Γ).name = "<init>" ∧ (T j).1 = own)) (hd : parseFieldDescriptor (T j).2.2.1 = some ty) (hr : (∃ c, ty = .object c) ∨ ∃ t, ty = .array t) (ht : (fty ci)[j]? = some 1) (d : decode cc pc = .ok (.putfield idx, 3)) (hf : ((dgo σ x ci).bind fun o => lt (sF σ o ci (o.2.1, ups o.2.2.1 j y, o.2.2.2)) (G o)) = some z)
    (kk : ∀ o s1, G o s1 = some z → V Γ D B w nL Q k n s1 (pc + 3) lv st) : V Γ D B w nL Q k n σ pc lv (rfB B y :: rfB B x :: st) :=
  bnd hf fun o ho hz => w_dput X hc hin ty0 hty hnm hj hl hfin hd (by rcases hr with ⟨c, rfl⟩ | ⟨t, rfl⟩ <;> cases y <;> rfl) (by rcases hr with ⟨c, rfl⟩ | ⟨t, rfl⟩ <;> cases y <;> rfl) ht (congrArg (rfB B) ups_self) (fun a u hu => by unfold fv ups; split <;> simp [hu]) d ho (kk o _ hz)
theorem b_dald (X : Cx Γ own cc nL D B rm) {x : Option Nat} {i : Int32} {α : Type} {K2 : Nat × Nat × (Nat → Int32) → Nat → Option α} {z : α} (d : decode cc pc = .ok (.iaload, 1)) (hf : ((dga σ x 1).bind fun o => (ix o.2.1 i).bind fun j => K2 o j) = some z)
    (kk : ∀ o j, K2 o j = some z → V Γ D B w nL Q k n σ (pc + 1) lv (.int (o.2.2 j) :: st)) : V Γ D B w nL Q k n σ pc lv (.int i :: rfB B x :: st) :=
  bnd hf fun o ho hz => bnd hz fun j hj hz H locs ls cs ss hP hS hl hk hn => by
    obtain ⟨rfl, hq⟩ := dga_some ho
    obtain ⟨h1, rfl, -⟩ := ix_some hj
    exact va_iald X.1 X.2.1 X.2.2.2.2.2.1.1 (at1 (hP.2.2 _ _ hq).2) 0 1 rfl rfl h1 d (kk o _ hz H locs ls cs ss hP hS hl hk hn)
theorem b_dast (X : Cx Γ own cc nL D B rm) {x : Option Nat} {i v : Int32} {α : Type} {G : Nat × Nat × (Nat → Int32) → Nat → St → Option α} {z : α} (d : decode cc pc = .ok (.iastore, 1)) (hf : ((dga σ x 1).bind fun o => (ix o.2.1 i).bind fun j => lt (sD σ o.1 (.inr (.inl (1, o.2.1, ups o.2.2 j v)))) (G o j)) = some z)
    (kk : ∀ o j s1, G o j s1 = some z → V Γ D B w nL Q k n s1 (pc + 1) lv st) : V Γ D B w nL Q k n σ pc lv (.int v :: .int i :: rfB B x :: st) :=
  bnd hf fun o ho hz => bnd hz fun j hj hz H locs ls cs ss hP hS hl hk hn => by
    obtain ⟨rfl, hq⟩ := dga_some ho
    obtain ⟨h1, rfl, -⟩ := ix_some hj
    exact w_iast X hS (Nat.le_add_right B _) (hP.2.2 _ _ hq).2 h1 d (fun H1 locs1 e1 z1 o1 hS1 => kk o _ _ hz H1 locs1 ls cs ss (hP.putD hq (c1 := .inr (.inl (1, o.2.1, ups o.2.2 i.toNatClampNeg v))) e1 z1 o1) hS1 hl hk hn)
theorem b_dlen (X : Cx Γ own cc nL D B rm) {x : Option Nat} {t : Nat} {ty : FieldType} {α : Type} {K : Nat × Nat × (Nat → Int32) → Option α} {z : α} (ht : (tyD D)[t]? = some (D.2 t, ty)) (d : decode cc pc = .ok (.arraylength, 1)) (hf : (dga σ x t).bind K = some z)
    (kk : ∀ o, K o = some z → V Γ D B w nL Q k n σ (pc + 1) lv (.int (Int32.ofNat o.2.1) :: st)) : V Γ D B w nL Q k n σ pc lv (rfB B x :: st) :=
  bnd hf fun o ho hz H locs ls cs ss hP hS hl hk hn => by
    obtain ⟨rfl, hq⟩ := dga_some ho
    exact va_alen X.1 X.2.1 X.2.2.2.2.2.1.1 (at1 (hP.2.2 _ _ hq).2) 0 t rfl ht rfl d (kk o hz H locs ls cs ss hP hS hl hk hn)
/-- a reference that is known to be a static cell -/
theorem b_eqs {x : Option Nat} {a : Nat} {α : Type} {G : Option α} {z : α} (hf : (if x = some a then G else none) = some z) (kk : G = some z → V Γ D B w nL Q k n σ pc lv (.ref (B + a) :: st)) : V Γ D B w nL Q k n σ pc lv (rfB B x :: st) := by
  by_cases h : x = some a
  · rw [if_pos h] at hf
    subst h
    exact kk hf
  · rw [if_neg h] at hf; cases hf
/-- an object is born -/
theorem r_new (X : Cx Γ own cc nL D B rm) {ci idx N : Nat} {C : String} {T : u_T} (hc : vwCl[ci]? = some (C, T, N)) (hin : ∀ x ∈ u_ws C T N, x ∈ WT) (ty0 : Nat → FieldType) (hty : ∀ k, k < N → parseFieldDescriptor (T k).2.2.1 = some (ty0 k)) (hcl : Cond.classLink own idx C ∈ WT) (hins : Cond.instantiable C N ∈ WT) (hini : Cond.initialized C ∈ WT) (hlen : (fty ci).length = N) (hdv : ∀ j t, (fty ci)[j]? = some t → defaultValue (ty0 j) = fv B (fun _ => 0, fun _ => none, fun _ => 0) j t)
    (hk1 : k + 1 ≤ rm.cells) (hn1 : n + N ≤ rm.slots) (d : decode cc pc = .ok (.new idx, 3)) (kk : V Γ D B w nL Q (k + 1) (n + N) (sN σ (.inl (ci, fun _ => 0, fun _ => none, fun _ => 0))) (pc + 3) lv (rfB B (some (sz σ)) :: st)) : V Γ D B w nL Q k n σ pc lv st := by
  intro H locs ls cs ss hP hS hl hk hn
  have hKn := X.2.2.2.2.2.1.1.1 ci _ hc
  have hR := X.2.2.2.2.2.2.2.2
  have hs := hP.1
  refine W.newcK X.1 X.2.1 X.2.2.2.1 (X.w hcl) (X.w hins) (X.w hini) rfl d (by show cs + 1 ≤ (GR Γ).cells; rw [hR]; omega) (by show ss + N ≤ (GR Γ).slots; rw [hR]; omega) hKn.2.1 rfl fun H1 kC hkC e1 z1 o1 => ?_
  have e2 : F0 (Gm Γ) (pc + 3) ls (Value.ref H.size :: st) = F0 (Gm Γ) (pc + 3) ls (rfB B (some (sz σ)) :: st) := by rw [hs]; rfl
  refine W.eq e2 (kk H1 locs ls (cs + 1) (ss + N) (hP.born ?_ z1 o1) ⟨Nat.le_trans hS.1 (by omega), fun x h1 h2 => (o1 x (Nat.lt_of_lt_of_le h1 hS.1)).trans (hS.2.1 x h1 h2), hS.2.2⟩ hl (by omega) (by omega))
  refine ⟨_, hc, (u_born ty0 X.2.2.2.2.1 hin hKn hkC e1 hty).to fun j hj => ?_⟩
  have hjl : j < (fty ci).length := by rw [hlen]; exact hj
  rw [hdv j _ (List.getElem?_eq_getElem hjl)]
  show _ = List.getD _ j _
  rw [List.getD_eq_getElem?_getD]
  show _ = (((fty ci).mapIdx _)[j]?).getD _
  rw [fv_get (List.getElem?_eq_getElem hjl)]
  rfl
theorem r_newa (X : Cx Γ own cc nL D B rm) {atype : ArrayType} {ty : FieldType} {t m : Nat} {i : Int32} (harr : Cond.arrayClass (newarray.typeOf atype) ∈ WT) (hty : newarray.typeOf atype = ty) (ht : (tyD D)[t]? = some (D.2 t, ty)) (ht3 : ty = .char ∨ ty = .int ∨ ty = .boolean) (hi : ¬ i < 0) (hm : i.toNatClampNeg = m) (hb : m ≤ 5000) (hk1 : k + 1 ≤ rm.cells) (hn1 : n + m ≤ rm.slots) (d : decode cc pc = .ok (.newarray atype, 2))
    (kk : V Γ D B w nL Q (k + 1) (n + m) (sN σ (.inr (.inl (t, m, fun _ => 0)))) (pc + 2) lv (rfB B (some (sz σ)) :: st)) : V Γ D B w nL Q k n σ pc lv (.int i :: st) := by
  intro H locs ls cs ss hP hS hl hk hn
  have hR := X.2.2.2.2.2.2.2.2
  have hs := hP.1
  subst hty
  refine va_newaK X.1 X.2.1 (X.w harr) rfl d rfl hi hm (by
    have h4 : componentBytes (newarray.typeOf atype) ≤ 4 := by rcases ht3 with h | h | h <;> rw [h] <;> decide
    have := Nat.mul_le_mul hb h4
    omega) (by show cs + 1 ≤ (GR Γ).cells; rw [hR]; omega) (by show ss + m ≤ (GR Γ).slots; rw [hR]; omega) rfl fun H1 cA e1 z1 o1 hAr hNm => ?_
  have hcA : cA = D.2 t := by
    have h2 := (X.2.2.2.2.2.1.1.2 t _ ht).2
    have h3 : (Gs Γ).vm.findClass ("[" ++ (newarray.typeOf atype).toString) = some (D.2 t) := by
      rcases ht3 with h | h | h <;> (rw [h] at h2 ⊢; exact h2)
    exact Option.some.inj (hNm.symm.trans h3)
  subst hcA
  have e2 : F0 (Gm Γ) (pc + 2) ls (Value.ref H.size :: st) = F0 (Gm Γ) (pc + 2) ls (rfB B (some (sz σ)) :: st) := by rw [hs]; rfl
  refine W.eq e2 (kk H1 locs ls (cs + 1) (ss + m) (hP.born ?_ z1 o1) ⟨Nat.le_trans hS.1 (by omega), fun x h1 h2 => (o1 x (Nat.lt_of_lt_of_le h1 hS.1)).trans (hS.2.1 x h1 h2), hS.2.2⟩ hl (by omega) (by omega))
  have h0 : (fun _ : Nat => defaultValue (newarray.typeOf atype)) = (fun j : Nat => Value.int ((fun _ : Nat => (0 : Int32)) j)) := by
    rcases ht3 with h | h | h <;> rw [h] <;> rfl
  rw [h0] at e1
  exact e1
theorem r_newaL (X : Cx Γ own cc nL D B rm) {m : Nat} {i : Int32} (harr : Cond.arrayClass .long ∈ WT) (hi : ¬ i < 0) (hm : i.toNatClampNeg = m) (hb : m ≤ 5000) (hk1 : k + 1 ≤ rm.cells) (hn1 : n + m ≤ rm.slots) (d : decode cc pc = .ok (.newarray .long, 2))
    (kk : V Γ D B w nL Q (k + 1) (n + m) (sN σ (.inr (.inr (.inl (m, fun _ => 0))))) (pc + 2) lv (rfB B (some (sz σ)) :: st)) : V Γ D B w nL Q k n σ pc lv (.int i :: st) := by
  intro H locs ls cs ss hP hS hl hk hn
  have hR := X.2.2.2.2.2.2.2.2
  have hs := hP.1
  refine va_newaK X.1 X.2.1 (atype := .long) (X.w harr) rfl d rfl hi hm (by
    have h4 : componentBytes (newarray.typeOf .long) ≤ 8 := by decide
    have := Nat.mul_le_mul hb h4
    omega) (by show cs + 1 ≤ (GR Γ).cells; rw [hR]; omega) (by show ss + m ≤ (GR Γ).slots; rw [hR]; omega) rfl fun H1 cA e1 z1 o1 hAr hNm => ?_
  have hcA : cA = D.2 2 := Option.some.inj (hNm.symm.trans (X.2.2.2.2.2.1.1.2 2 _ rfl).2)
  subst hcA
  have e2 : F0 (Gm Γ) (pc + 2) ls (Value.ref H.size :: st) = F0 (Gm Γ) (pc + 2) ls (rfB B (some (sz σ)) :: st) := by rw [hs]; rfl
  refine W.eq e2 (kk H1 locs ls (cs + 1) (ss + m) (hP.born ?_ z1 o1) ⟨Nat.le_trans hS.1 (by omega), fun x h1 h2 => (o1 x (Nat.lt_of_lt_of_le h1 hS.1)).trans (hS.2.1 x h1 h2), hS.2.2⟩ hl (by omega) (by omega))
  exact e1
theorem r_objInit (X : Cx Γ own cc nL D B rm) {idx : Nat} {x : Option Nat} {q : Nat} (hx : x = some q) (hl : Cond.methodLink own idx objectInit ∈ WT) (hin : Cond.instanceMethod objectInit ∈ WT) (hco : Cond.code objectInit ⟨#[0xb1]⟩ 1 none ∈ WT) (hf : 1 ≤ rm.frames) (hlo : (st.map fun v => v.category).sum + 12 ≤ rm.locals) (d : decode cc pc = .ok (.invokespecial idx, 3))
    (kk : V Γ D B w nL Q k n σ (pc + 3) lv st) : V Γ D B w nL Q k n σ pc lv (rfB B x :: st) := by
  subst hx
  exact fun H locs ls cs ss hP hS hl2 hk hn => W.objInit X.1 X.2.1 X.2.2.2.1 (X.w hl) (X.w hin) (X.w hco) rfl (hl2.1.trans X.2.2.1.symm) rfl d (by show 1 ≤ (GR Γ).frames; rw [X.2.2.2.2.2.2.2.2]; exact hf) (by show 2 * 0 + _ + 12 ≤ (GR Γ).locals; rw [X.2.2.2.2.2.2.2.2]; omega) (W.eq rfl (kk H locs ls cs ss hP hS hl2 hk hn))
end VD
