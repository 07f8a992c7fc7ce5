/-! rows of V over the heap: fields, arrays, births -/
def ix (n : Nat) (i : Int32) : Option Nat := if i < 0 ∨ n ≤ i.toNatClampNeg then none else some i.toNatClampNeg
theorem ix_some {n : Nat} {i : Int32} {j : Nat} (h : ix n i = some j) : vp_in i n ∧ i.toNatClampNeg = j ∧ j < n := by
  unfold ix at h
  by_cases hc : i < 0 ∨ n ≤ i.toNatClampNeg
  · rw [if_pos hc] at h; cases h
  · rw [if_neg hc] at h
    cases h
    exact ⟨hc, rfl, by omega⟩
/-- what a dynamic reference shows -/
def dgo (σ : St) (x : Option Nat) (ci : Nat) : Option (Nat × (Nat → Int32) × (Nat → Option Nat) × (Nat → Int64)) := match x with
  | none => none
  | some q => match gD σ q with
    | some (.inl o) => if o.1 = ci then some (q, o.2) else none
    | _ => none
theorem dgo_some {σ : St} {x : Option Nat} {ci : Nat} {o : Nat × (Nat → Int32) × (Nat → Option Nat) × (Nat → Int64)} (h : dgo σ x ci = some o) : x = some o.1 ∧ gD σ o.1 = some (.inl (ci, o.2)) := by
  unfold dgo at h
  split at h
  · cases h
  · rename_i q
    split at h
    · rename_i o' ho
      by_cases hc : o'.1 = ci
      · rw [if_pos hc] at h
        cases h
        subst hc
        exact ⟨rfl, ho⟩
      · rw [if_neg hc] at h; cases h
    · cases h
def dga (σ : St) (x : Option Nat) (t : Nat) : Option (Nat × Nat × (Nat → Int32)) := match x with
  | none => none
  | some q => match gD σ q with
    | some (.inr (.inl a)) => if a.1 = t then some (q, a.2) else none
    | _ => none
theorem dga_some {σ : St} {x : Option Nat} {t : Nat} {o : Nat × Nat × (Nat → Int32)} (h : dga σ x t = some o) : x = some o.1 ∧ gD σ o.1 = some (.inr (.inl (t, o.2))) := by
  unfold dga at h
  split at h
  · cases h
  · rename_i q
    split at h
    · rename_i o' ho
      by_cases hc : o'.1 = t
      · rw [if_pos hc] at h
        cases h
        subst hc
        exact ⟨rfl, ho⟩
      · rw [if_neg hc] at h; cases h
    · cases h
theorem at1 {D : DD} {a : Nat} {e : va_E} {H : Heap} (h : va_at D.1 vwCl (a, e) H) : va_P D.1 vwCl [(a, e)] H := by
  intro k q hk
  match k, hk with
  | 0, hk => cases hk; exact h
theorem fv_get {B ci j t : Nat} {o : (Nat → Int32) × (Nat → Option Nat) × (Nat → Int64)} (h : (fty ci)[j]? = some t) : ((fty ci).mapIdx (fun j t => fv B o j t))[j]? = some (fv B o j t) := by
  rw [List.getElem?_mapIdx, h]; rfl
theorem fv_set {B ci j t : Nat} {o o1 : (Nat → Int32) × (Nat → Option Nat) × (Nat → Int64)} (h : (fty ci)[j]? = some t) (hs : ∀ a u, a ≠ j → fv B o1 a u = fv B o a u) : ((fty ci).mapIdx (fun j t => fv B o j t)).set j (fv B o1 j t) = (fty ci).mapIdx (fun j t => fv B o1 j t) := by
  apply List.ext_getElem?
  intro a
  rw [List.getElem?_set]
  by_cases e : j = a
  · subst e
    rw [if_pos rfl, fv_get h, if_pos]
    rw [List.length_mapIdx]
    exact (List.getElem?_eq_some_iff.mp h).1
  · rw [if_neg e, List.getElem?_mapIdx, List.getElem?_mapIdx]
    cases (fty ci)[a]? with
    | none => rfl
    | some u => exact congrArg some (hs a u (fun q => e q.symm)).symm
section WH
variable {Γ : Ga} {D : DD} {B : Nat} {own : String} {cc : ByteArray} {nL : Nat} {rm : Room} {Q : State → Prop} {H : Heap} {locs : List Loc} {cs ss : Nat} {pc : Nat} {ls : Array Slot} {st : List Value}
theorem w_put (X : Cx Γ own cc nL D B rm) (hS : va_S (fun q => B ≤ q) (Gs Γ).heap H locs) {a ci j idx N : Nat} {fs : List Value} {C : String} {T : u_T} {v : Value} {ty : FieldType} (hBa : B ≤ a) (hat : va_at D.1 vwCl (a, .inr (ci, fs)) H) (hc : vwCl[ci]? = some (C, T, N)) (hin : ∀ x ∈ u_ws C T N, x ∈ WT) (ty0 : Nat → FieldType) (hty : ∀ k, k < N → parseFieldDescriptor (T k).2.2.1 = some (ty0 k)) (hnm : ∀ a, a < N → ∀ b, b < N → a ≠ b → (T a).2.1 ≠ (T b).2.1)
    (hj : j < N) (hl : Cond.fieldLink own idx (T j).1 (T j).2.1 (T j).2.2.1 ∈ WT) (hfin : (T j).2.2.2 = false ∨ ((T j).2.2.2 = true ∧ (Gme Γ).name = "<init>" ∧ (T j).1 = own)) (hd : parseFieldDescriptor (T j).2.2.1 = some ty) (hn : narrow ty v = v) (hfit : fits ty v = true) (hlen : j < fs.length) (d : decode cc pc = .ok (.putfield idx, 3))
    (kk : ∀ (H1 : Heap) (locs1 : List Loc), va_at D.1 vwCl (a, .inr (ci, fs.set j v)) H1 → H1.size = H.size → (∀ q : Nat, q ≠ a → H1[q]? = H[q]?) → va_S (fun q => B ≤ q) (Gs Γ).heap H1 locs1 → GW Γ H1 locs1 cs ss Q (F0 (Gm Γ) (pc + 3) ls st)) : GW Γ H locs cs ss Q (F0 (Gm Γ) pc ls (v :: .ref a :: st)) := by
  have hK := X.2.2.2.2.2.1.1
  have hts := X.2.2.2.2.1
  have hown := X.2.2.2.1
  have hap := va_apart (own := own) hts hin ty0 hty hnm hK hc
  obtain ⟨r, h1, cell, q1, q2, q3, q4⟩ := hat
  have hr : r = (C, T, N) := Option.some.inj (h1.symm.trans hc)
  subst hr
  obtain ⟨hSl, hfc, kC, hkC, hkind⟩ := hK.1 ci _ hc
  obtain ⟨cf, kf, fi, f, hi, hsl⟩ := hSl j hj
  have hlay := hts _ (hin _ (u_in_lay hj))
  have hst := (u_facts hfc hkC (u_lays hts hin hj) hi).1
  rcases hfin with hf | ⟨hf, hin2, hdecl⟩
  · unfold u_lay at hlay
    rw [if_neg (by rw [hf]; decide)] at hlay
    have h6 := u_store hfc hkC hkind hlay hi hd hn hfit
    refine W.putK X.1 X.2.1 (f := f) ⟨hown, hts _ hl, ⟨_, _, _, hi⟩, hst⟩ (by rw [q2]; exact h6) q1 q3 (by rw [hsl]; exact k2_hasslot (q4 j hj)) rfl rfl d fun H' e1 e2 e3 => ?_
    rw [hsl] at e1 ⊢
    exact kk H' _ ⟨_, hc, t_OB.to (V := updV (vp_V fs) j v) ⟨_, e1, q2, q3, t_set q4 hap hj v⟩ (fun i _ => vp_updV_set hlen v i)⟩ e2 e3 (hS.put e2 e3 hBa)
  · unfold u_lay at hlay
    rw [if_pos hf] at hlay
    have hcf : (Gm Γ).cls = cf := by
      obtain ⟨_, _, c', _, _, _, -, -, hf', -, -, -, hown2, -⟩ := Cond.laysFinal_spec hlay
      have e1 : c' = cf := by have := hi.symm.trans hf'; simp at this; exact this.1.symm
      rw [hdecl] at hown2
      rw [← e1]; exact Option.some.inj (hown.symm.trans hown2)
    have h6 := u_fits hfc hkC hkind (Or.inr hlay) hi hd hn hfit
    refine W.putFinK X.1 X.2.1 hown (hts _ hl) hi hst hcf hin2 (by rw [q2]; exact h6) q1 q3 (by rw [hsl]; exact k2_hasslot (q4 j hj)) rfl rfl d fun H' e1 e2 e3 => ?_
    rw [hsl] at e1 ⊢
    exact kk H' _ ⟨_, hc, t_OB.to (V := updV (vp_V fs) j v) ⟨_, e1, q2, q3, t_set q4 hap hj v⟩ (fun i _ => vp_updV_set hlen v i)⟩ e2 e3 (hS.put e2 e3 hBa)
theorem arr_up (cA : ClassId) (n j : Nat) (f : Nat → Int32) (x : Int32) : (arrV cA n (fun i => .int (f i))).setSlot j (.int x) = vp_cell cA (n, .inl (ups f j x)) := by
  rw [arrV_store, vp_cell_i]
  congr 1
  funext i
  unfold updV ups
  by_cases e : i = j
  · rw [if_pos e, if_pos e]
  · rw [if_neg e, if_neg e]
theorem arr_upL (cA : ClassId) (n j : Nat) (f : Nat → Int64) (x : Int64) : (arrV cA n (fun i => .long (f i))).setSlot j (.long x) = vp_cell cA (n, .inr (.inl (ups f j x))) := by
  rw [arrV_store, vp_cell_l]
  congr 1
  funext i
  unfold updV ups
  by_cases e : i = j
  · rw [if_pos e, if_pos e]
  · rw [if_neg e, if_neg e]
theorem arr_upQ (cA : ClassId) (n j : Nat) (f : Nat → Option Nat) (x : Option Nat) : (arrV cA n (fun i => va_rf (f i))).setSlot j (va_rf x) = vp_cell cA (n, .inr (.inr (.inr (.inr (ups f j x))))) := by
  rw [arrV_store, vp_cell_q]
  congr 1
  funext i
  unfold updV ups
  by_cases e : i = j
  · rw [if_pos e, if_pos e]
  · rw [if_neg e, if_neg e]
theorem vp_in_size {cA : ClassId} {n : Nat} {f : Nat → Value} {i : Int32} (h : vp_in i n) : ¬ (i < 0 ∨ (arrV cA n f).slots.size ≤ i.toNatClampNeg) := by rw [arrV_size]; exact h
theorem w_iast (X : Cx Γ own cc nL D B rm) (hS : va_S (fun q => B ≤ q) (Gs Γ).heap H locs) {a n : Nat} {f : Nat → Int32} {i x : Int32} (hBa : B ≤ a) (hat : va_at D.1 vwCl (a, .inl (D.2 1, n, .inl f)) H) (hi : vp_in i n) (d : decode cc pc = .ok (.iastore, 1))
    (kk : ∀ (H1 : Heap) (locs1 : List Loc), va_at D.1 vwCl (a, .inl (D.2 1, n, .inl (ups f i.toNatClampNeg x))) H1 → H1.size = H.size → (∀ q : Nat, q ≠ a → H1[q]? = H[q]?) → va_S (fun q => B ≤ q) (Gs Γ).heap H1 locs1 → GW Γ H1 locs1 cs ss Q (F0 (Gm Γ) (pc + 1) ls st)) : GW Γ H locs cs ss Q (F0 (Gm Γ) pc ls (.int x :: .int i :: .ref a :: st)) := by
  refine W.iast X.1 X.2.1 (cell := arrV (D.2 1) n (fun j => .int (f j))) hat ((X.2.2.2.2.2.1.1.2 1 _ rfl).1 n _) (fun q => by cases q) (vp_in_size hi) rfl rfl d fun H' e1 e2 e3 => ?_
  rw [arr_up] at e1
  exact kk H' _ e1 e2 e3 (hS.put e2 e3 hBa)
theorem w_zast (X : Cx Γ own cc nL D B rm) (hS : va_S (fun q => B ≤ q) (Gs Γ).heap H locs) {a n : Nat} {f : Nat → Int32} {i x : Int32} (hBa : B ≤ a) (hat : va_at D.1 vwCl (a, .inl (D.2 3, n, .inl f)) H) (hi : vp_in i n) (hx : narrow .boolean (.int x) = .int x) (d : decode cc pc = .ok (.bastore, 1))
    (kk : ∀ (H1 : Heap) (locs1 : List Loc), va_at D.1 vwCl (a, .inl (D.2 3, n, .inl (ups f i.toNatClampNeg x))) H1 → H1.size = H.size → (∀ q : Nat, q ≠ a → H1[q]? = H[q]?) → va_S (fun q => B ≤ q) (Gs Γ).heap H1 locs1 → GW Γ H1 locs1 cs ss Q (F0 (Gm Γ) (pc + 1) ls st)) : GW Γ H locs cs ss Q (F0 (Gm Γ) pc ls (.int x :: .int i :: .ref a :: st)) := by
  refine W.zast X.1 X.2.1 (cell := arrV (D.2 3) n (fun j => .int (f j))) hat ((X.2.2.2.2.2.1.1.2 3 _ rfl).1 n _) (fun q => by cases q) (vp_in_size hi) rfl rfl d fun H' e1 e2 e3 => ?_
  rw [hx, arr_up] at e1
  exact kk H' _ e1 e2 e3 (hS.put e2 e3 hBa)
theorem w_cast (X : Cx Γ own cc nL D B rm) (hS : va_S (fun q => B ≤ q) (Gs Γ).heap H locs) {a n : Nat} {f : Nat → Int32} {i x : Int32} (hBa : B ≤ a) (hat : va_at D.1 vwCl (a, .inl (D.2 0, n, .inl f)) H) (hi : vp_in i n) (hx : narrow .char (.int x) = .int x) (d : decode cc pc = .ok (.castore, 1))
    (kk : ∀ (H1 : Heap) (locs1 : List Loc), va_at D.1 vwCl (a, .inl (D.2 0, n, .inl (ups f i.toNatClampNeg x))) H1 → H1.size = H.size → (∀ q : Nat, q ≠ a → H1[q]? = H[q]?) → va_S (fun q => B ≤ q) (Gs Γ).heap H1 locs1 → GW Γ H1 locs1 cs ss Q (F0 (Gm Γ) (pc + 1) ls st)) : GW Γ H locs cs ss Q (F0 (Gm Γ) pc ls (.int x :: .int i :: .ref a :: st)) := by
  refine W.cast X.1 X.2.1 (cell := arrV (D.2 0) n (fun j => .int (f j))) hat ((X.2.2.2.2.2.1.1.2 0 _ rfl).1 n _) (fun q => by cases q) (vp_in_size hi) rfl rfl d fun H' e1 e2 e3 => ?_
  rw [hx, arr_up] at e1
  exact kk H' _ e1 e2 e3 (hS.put e2 e3 hBa)
theorem w_last (X : Cx Γ own cc nL D B rm) (hS : va_S (fun q => B ≤ q) (Gs Γ).heap H locs) {a n : Nat} {f : Nat → Int64} {i : Int32} {x : Int64} (hBa : B ≤ a) (hat : va_at D.1 vwCl (a, .inl (D.2 2, n, .inr (.inl f))) H) (hi : vp_in i n) (d : decode cc pc = .ok (.lastore, 1))
    (kk : ∀ (H1 : Heap) (locs1 : List Loc), va_at D.1 vwCl (a, .inl (D.2 2, n, .inr (.inl (ups f i.toNatClampNeg x)))) H1 → H1.size = H.size → (∀ q : Nat, q ≠ a → H1[q]? = H[q]?) → va_S (fun q => B ≤ q) (Gs Γ).heap H1 locs1 → GW Γ H1 locs1 cs ss Q (F0 (Gm Γ) (pc + 1) ls st)) : GW Γ H locs cs ss Q (F0 (Gm Γ) pc ls (.long x :: .int i :: .ref a :: st)) := by
  refine W.last X.1 X.2.1 (cell := arrV (D.2 2) n (fun j => .long (f j))) hat ((X.2.2.2.2.2.1.1.2 2 _ rfl).1 n _) (fun q => by cases q) (vp_in_size hi) rfl rfl d fun H' e1 e2 e3 => ?_
  rw [arr_upL] at e1
  exact kk H' _ e1 e2 e3 (hS.put e2 e3 hBa)
end WH
section VH
variable {Γ : Ga} {D : DD} {B : Nat} {w : Bool} {own : String} {cc : ByteArray} {nL : Nat} {rm : Room} {Q : State → Prop} {k n : Nat} {σ : St} {pc : Nat} {lv : List (Nat × Value)} {st : List Value}
/-- a field of a static object is read -/
theorem r_get (X : Cx Γ own cc nL D B rm) {a ci j idx N : Nat} {fs : List Value} {C : String} {T : u_T} {v : Value} (he : (cells D B w σ)[a]? = some (.inr (ci, fs))) (hc : vwCl[ci]? = some (C, T, N)) (hin : ∀ x ∈ u_ws C T N, x ∈ WT) (hj : j < N) (hl : Cond.fieldLink own idx (T j).1 (T j).2.1 (T j).2.2.1 ∈ WT) (hv : fs[j]? = some v) (d : decode cc pc = .ok (.getfield idx, 3))
    (kk : V Γ D B w nL Q k n σ (pc + 3) lv (v :: st)) : V Γ D B w nL Q k n σ pc lv (.ref (B + a) :: st) :=
  fun H locs ls cs ss hP hS hl2 hk hn => va_get X.1 X.2.1 X.2.2.2.2.1 hin X.2.2.2.1 X.2.2.2.2.2.1.1 (at1 (hP.2.1 a _ he)) 0 rfl hc j hj (X.w hl) (fun _ h => h) hv d (kk H locs ls cs ss hP hS hl2 hk hn)
/-- a field of a static object is written -/
theorem r_put (X : Cx Γ own cc nL D B rm) {a ci j idx N : Nat} {fs : List Value} {C : String} {T : u_T} {v : Value} {ty : FieldType} {σ1 : St} (he : (cells D B w σ)[a]? = some (.inr (ci, fs))) (hc : vwCl[ci]? = some (C, T, N)) (hin : ∀ x ∈ u_ws C T N, x ∈ WT) (ty0 : Nat → FieldType) (hty : ∀ k, k < N → parseFieldDescriptor (T k).2.2.1 = some (ty0 k)) (hnm : ∀ a, a < N → ∀ b, b < N → a ≠ b → (T a).2.1 ≠ (T b).2.1)
    (hj : j < N) (hl : Cond.fieldLink own idx (T j).1 (T j).2.1 (T j).2.2.1 ∈ WT) (hfin : (T j).2.2.2 = false) (hd : parseFieldDescriptor (T j).2.2.1 = some ty) (hn2 : narrow ty v = v) (hfit : fits ty v = true) (hlen : j < fs.length) (hcs : cells D B w σ1 = (cells D B w σ).set a (.inr (ci, fs.set j v))) (hgd : gD σ1 = gD σ) (hsz : sz σ1 = sz σ) (d : decode cc pc = .ok (.putfield idx, 3))
    (kk : V Γ D B w nL Q k n σ1 (pc + 3) lv st) : V Γ D B w nL Q k n σ pc lv (v :: .ref (B + a) :: st) :=
  fun H locs ls cs ss hP hS hl2 hk hn => w_put X hS (Nat.le_add_right B a) (hP.2.1 a _ he) hc hin ty0 hty hnm hj hl (Or.inl hfin) hd hn2 hfit hlen d
    (fun H1 locs1 e1 z1 o1 hS1 => kk H1 locs1 ls cs ss (hP.put hcs hgd hsz e1 z1 o1 (List.getElem?_eq_some_iff.mp he).1) hS1 hl2 hk hn)
theorem b_iald (X : Cx Γ own cc nL D B rm) {a m : Nat} {f : Nat → Int32} {i : Int32} {α : Type} {K : Nat → Option α} {z : α} (he : (cells D B w σ)[a]? = some (.inl (D.2 1, m, .inl f))) (d : decode cc pc = .ok (.iaload, 1)) (hf : (ix m i).bind K = some z) (kk : ∀ j, K j = some z → V Γ D B w nL Q k n σ (pc + 1) lv (.int (f j) :: st)) : V Γ D B w nL Q k n σ pc lv (.int i :: .ref (B + a) :: st) :=
  bnd hf fun j hj hz H locs ls cs ss hP hS hl hk hn => by
    obtain ⟨h1, rfl, -⟩ := ix_some hj
    exact va_iald X.1 X.2.1 X.2.2.2.2.2.1.1 (at1 (hP.2.1 a _ he)) 0 1 rfl rfl h1 d (kk _ hz H locs ls cs ss hP hS hl hk hn)
theorem b_zald (X : Cx Γ own cc nL D B rm) {a m : Nat} {f : Nat → Int32} {i : Int32} {α : Type} {K : Nat → Option α} {z : α} (he : (cells D B w σ)[a]? = some (.inl (D.2 3, m, .inl f))) (d : decode cc pc = .ok (.baload, 1)) (hf : (ix m i).bind K = some z) (kk : ∀ j, K j = some z → V Γ D B w nL Q k n σ (pc + 1) lv (.int (f j) :: st)) : V Γ D B w nL Q k n σ pc lv (.int i :: .ref (B + a) :: st) :=
  bnd hf fun j hj hz H locs ls cs ss hP hS hl hk hn => by
    obtain ⟨h1, rfl, -⟩ := ix_some hj
    exact va_zald X.1 X.2.1 X.2.2.2.2.2.1.1 (at1 (hP.2.1 a _ he)) 0 3 rfl rfl h1 d (kk _ hz H locs ls cs ss hP hS hl hk hn)
theorem b_cald (X : Cx Γ own cc nL D B rm) {a m : Nat} {f : Nat → Int32} {i : Int32} {α : Type} {K : Nat → Option α} {z : α} (he : (cells D B w σ)[a]? = some (.inl (D.2 0, m, .inl f))) (d : decode cc pc = .ok (.caload, 1)) (hf : (ix m i).bind K = some z) (kk : ∀ j, K j = some z → V Γ D B w nL Q k n σ (pc + 1) lv (.int (f j) :: st)) : V Γ D B w nL Q k n σ pc lv (.int i :: .ref (B + a) :: st) :=
  bnd hf fun j hj hz H locs ls cs ss hP hS hl hk hn => by
    obtain ⟨h1, rfl, -⟩ := ix_some hj
    exact va_cald X.1 X.2.1 X.2.2.2.2.2.1.1 (at1 (hP.2.1 a _ he)) 0 0 rfl rfl h1 d (kk _ hz H locs ls cs ss hP hS hl hk hn)
theorem b_lald (X : Cx Γ own cc nL D B rm) {a m : Nat} {f : Nat → Int64} {i : Int32} {α : Type} {K : Nat → Option α} {z : α} (he : (cells D B w σ)[a]? = some (.inl (D.2 2, m, .inr (.inl f)))) (d : decode cc pc = .ok (.laload, 1)) (hf : (ix m i).bind K = some z) (kk : ∀ j, K j = some z → V Γ D B w nL Q k n σ (pc + 1) lv (.long (f j) :: st)) : V Γ D B w nL Q k n σ pc lv (.int i :: .ref (B + a) :: st) :=
  bnd hf fun j hj hz H locs ls cs ss hP hS hl hk hn => by
    obtain ⟨h1, rfl, -⟩ := ix_some hj
    exact va_lald X.1 X.2.1 X.2.2.2.2.2.1.1 (at1 (hP.2.1 a _ he)) 0 2 rfl rfl h1 d (kk _ hz H locs ls cs ss hP hS hl hk hn)
theorem b_aald (X : Cx Γ own cc nL D B rm) {a m : Nat} {f : Nat → Option Nat} {i : Int32} {α : Type} {K : Nat → Option α} {z : α} (he : (cells D B w σ)[a]? = some (.inl (D.2 4, m, .inr (.inr (.inr (.inr (fun j => (f j).map (B + ·)))))))) (d : decode cc pc = .ok (.aaload, 1)) (hf : (ix m i).bind K = some z) (kk : ∀ j, K j = some z → V Γ D B w nL Q k n σ (pc + 1) lv (rfB B (f j) :: st)) : V Γ D B w nL Q k n σ pc lv (.int i :: .ref (B + a) :: st) :=
  bnd hf fun j hj hz H locs ls cs ss hP hS hl hk hn => by
    obtain ⟨h1, rfl, -⟩ := ix_some hj
    have h2 := kk _ hz H locs ls cs ss hP hS hl hk hn
    rw [rfB_rf] at h2
    exact va_aldq X.1 X.2.1 X.2.2.2.2.2.1.1 (at1 (hP.2.1 a _ he)) 0 4 rfl rfl h1 d h2
theorem b_iast (X : Cx Γ own cc nL D B rm) {a m : Nat} {f : Nat → Int32} {i x : Int32} {α : Type} {G : Nat → St → Option α} {z : α} (he : (cells D B w σ)[a]? = some (.inl (D.2 1, m, .inl f))) (hcs : ∀ j, cells D B w (sA σ a j x) = (cells D B w σ).set a (.inl (D.2 1, m, .inl (ups f j x)))) (d : decode cc pc = .ok (.iastore, 1)) (hf : ((ix m i).bind fun j => lt (sA σ a j x) (G j)) = some z) (kk : ∀ j s1, G j s1 = some z → V Γ D B w nL Q k n s1 (pc + 1) lv st) : V Γ D B w nL Q k n σ pc lv (.int x :: .int i :: .ref (B + a) :: st) :=
  bnd hf fun j hj hz H locs ls cs ss hP hS hl hk hn => by
    obtain ⟨h1, rfl, -⟩ := ix_some hj
    exact w_iast X hS (Nat.le_add_right B a) (hP.2.1 a _ he) h1 d (fun H1 locs1 e1 z1 o1 hS1 => kk _ _ hz H1 locs1 ls cs ss (hP.put (hcs _) rfl rfl e1 z1 o1 (List.getElem?_eq_some_iff.mp he).1) hS1 hl hk hn)
theorem nar_z {x : Int32} (h : x = 0 ∨ x = 1) : narrow .boolean (.int x) = .int x := by rcases h with rfl | rfl <;> rfl
theorem b_zast (X : Cx Γ own cc nL D B rm) {a m : Nat} {f : Nat → Int32} {i x : Int32} {α : Type} {G : Nat → St → Option α} {z : α} (he : (cells D B w σ)[a]? = some (.inl (D.2 3, m, .inl f))) (hcs : ∀ j, cells D B w (sA σ a j x) = (cells D B w σ).set a (.inl (D.2 3, m, .inl (ups f j x)))) (d : decode cc pc = .ok (.bastore, 1)) (hf : ((ix m i).bind fun j => lt (sA σ a j x) (G j)) = some z) (hx : x = 0 ∨ x = 1) (kk : ∀ j s1, G j s1 = some z → V Γ D B w nL Q k n s1 (pc + 1) lv st) : V Γ D B w nL Q k n σ pc lv (.int x :: .int i :: .ref (B + a) :: st) :=
  bnd hf fun j hj hz H locs ls cs ss hP hS hl hk hn => by
    obtain ⟨h1, rfl, -⟩ := ix_some hj
    exact w_zast X hS (Nat.le_add_right B a) (hP.2.1 a _ he) h1 (nar_z hx) d (fun H1 locs1 e1 z1 o1 hS1 => kk _ _ hz H1 locs1 ls cs ss (hP.put (hcs _) rfl rfl e1 z1 o1 (List.getElem?_eq_some_iff.mp he).1) hS1 hl hk hn)
theorem b_cast (X : Cx Γ own cc nL D B rm) {a m : Nat} {f : Nat → Int32} {i x : Int32} {α : Type} {G : Nat → St → Option α} {z : α} (he : (cells D B w σ)[a]? = some (.inl (D.2 0, m, .inl f))) (hcs : ∀ j, cells D B w (sA σ a j x) = (cells D B w σ).set a (.inl (D.2 0, m, .inl (ups f j x)))) (d : decode cc pc = .ok (.castore, 1)) (hf : (if vp_nar .char x = x then ((ix m i).bind fun j => lt (sA σ a j x) (G j)) else none) = some z) (kk : ∀ j s1, G j s1 = some z → V Γ D B w nL Q k n s1 (pc + 1) lv st) : V Γ D B w nL Q k n σ pc lv (.int x :: .int i :: .ref (B + a) :: st) := by
  by_cases hx : vp_nar .char x = x
  · rw [if_pos hx] at hf
    refine bnd hf fun j hj hz H locs ls cs ss hP hS hl hk hn => ?_
    obtain ⟨h1, rfl, -⟩ := ix_some hj
    exact w_cast X hS (Nat.le_add_right B a) (hP.2.1 a _ he) h1 (congrArg Value.int hx) d (fun H1 locs1 e1 z1 o1 hS1 => kk _ _ hz H1 locs1 ls cs ss (hP.put (hcs _) rfl rfl e1 z1 o1 (List.getElem?_eq_some_iff.mp he).1) hS1 hl hk hn)
  · rw [if_neg hx] at hf; cases hf
theorem b_last (X : Cx Γ own cc nL D B rm) {a m : Nat} {f : Nat → Int64} {i : Int32} {x : Int64} {α : Type} {G : Nat → St → Option α} {z : α} (he : (cells D B w σ)[a]? = some (.inl (D.2 2, m, .inr (.inl f)))) (hcs : ∀ j, cells D B w (sJ σ a j x) = (cells D B w σ).set a (.inl (D.2 2, m, .inr (.inl (ups f j x))))) (d : decode cc pc = .ok (.lastore, 1)) (hf : ((ix m i).bind fun j => lt (sJ σ a j x) (G j)) = some z) (kk : ∀ j s1, G j s1 = some z → V Γ D B w nL Q k n s1 (pc + 1) lv st) : V Γ D B w nL Q k n σ pc lv (.long x :: .int i :: .ref (B + a) :: st) :=
  bnd hf fun j hj hz H locs ls cs ss hP hS hl hk hn => by
    obtain ⟨h1, rfl, -⟩ := ix_some hj
    exact w_last X hS (Nat.le_add_right B a) (hP.2.1 a _ he) h1 d (fun H1 locs1 e1 z1 o1 hS1 => kk _ _ hz H1 locs1 ls cs ss (hP.put (hcs _) rfl rfl e1 z1 o1 (List.getElem?_eq_some_iff.mp he).1) hS1 hl hk hn)
theorem r_alen (X : Cx Γ own cc nL D B rm) {a m t0 : Nat} {cA : ClassId} {f : (Nat → Int32) ⊕ (Nat → Int64) ⊕ (Nat → UInt32) ⊕ (Nat → UInt64) ⊕ (Nat → Option Nat)} {ty : FieldType} {v : Int32} (he : (cells D B w σ)[a]? = some (.inl (cA, m, f))) (ht : (tyD D)[t0]? = some (cA, ty)) (hv : Int32.ofNat m = v) (d : decode cc pc = .ok (.arraylength, 1)) (kk : V Γ D B w nL Q k n σ (pc + 1) lv (.int v :: st)) : V Γ D B w nL Q k n σ pc lv (.ref (B + a) :: st) :=
  fun H locs ls cs ss hP hS hl hk hn => va_alen X.1 X.2.1 X.2.2.2.2.2.1.1 (at1 (hP.2.1 a _ he)) 0 t0 rfl ht hv d (kk H locs ls cs ss hP hS hl hk hn)
end VH
