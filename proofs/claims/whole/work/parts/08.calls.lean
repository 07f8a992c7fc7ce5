/-! rows of V: calls and ends -/
theorem WT_call {cy : Cond} (h : cy ∈ WT) : GoodIn WT (cy :: WT) := by
  intro w hw
  have h1 : w ∈ WT := by
    rcases List.mem_cons.mp hw with rfl | h2
    · exact h
    · exact h2
  exact ⟨h1, good_of_word (List.mem_filter.mp h1).2⟩
theorem WT_ok {w : Cond} (h : w ∈ WT) : w ∈ WT ∧ ((w.onTables && w.keeps) = true ∨ ∃ ty, w = .arrayClass ty) := ⟨h, good_of_word (List.mem_filter.mp h).2⟩
theorem WT_cons {cs : List Cond} {w : Cond} (h : w ∈ WT) (hc : GoodIn WT cs) : GoodIn WT (w :: cs) := fun x hx => (List.mem_cons.mp hx).elim (fun e => e ▸ WT_ok h) (hc x)
theorem blind {as : List Value} {D : DD} {B : Nat} {w : Bool} {σ : St} : FrameBlind (va_Pc as (fun U => Pic D B w σ U.heap ∧ KK D U)) :=
  fun a U g mk h => ⟨h.1, h.2.1, KK.same (s := U) (U := U.calling g mk a) rfl h.2.2⟩
/-- what a receiver is -/
theorem recv {s : State} {H : Heap} {D : DD} {a ci N : Nat} {C : String} {T : u_T} {fs : List Value} (hK : va_K D.1 vwCl (tyD D) s) (hc : vwCl[ci]? = some (C, T, N)) (h : va_at D.1 vwCl (a, .inr (ci, fs)) H) : ∃ cell : Cell, H[a]? = some cell ∧ cell.vm.isStatics = false ∧ s.vm.findClass C = some cell.cls :=
  va_recv hK (at1 h) hc (q0 := 0) rfl
section VC
variable {Γ : Ga} {D : DD} {B : Nat} {w : Bool} {own : String} {cc : ByteArray} {nL : Nat} {rm : Room} {Q : State → Prop} {k n : Nat} {σ : St} {pc : Nat} {lv : List (Nat × Value)} {st : List Value}
theorem w_call (X : Cx Γ own cc nL D B rm) {H : Heap} {locs : List Loc} {ls : Array Slot} {cs ss mc ms : Nat} {st0 : List Value} {a : Array Value} {v : Option Value} {σ1 : St} (hl : lv_has ls nL lv) (hS : va_S (fun q => B ≤ q) (Gs Γ).heap H locs)
    (hr : va_Run Γ.1 Γ.2.1 Γ.2.2.1 Γ.2.2.2.1 Γ.2.2.2.2.1 Γ.2.2.2.2.2.1 Γ.2.2.2.2.2.2.1 Γ.2.2.2.2.2.2.2.1 Γ.2.2.2.2.2.2.2.2.1 Γ.2.2.2.2.2.2.2.2.2 H locs cs ss mc ms (F0 (Gm Γ) pc ls st0) st (QR D B w σ1 v a) (fun q => B ≤ q)) (hk : cs ≤ k) (hn : ss ≤ n)
    (kk : V Γ D B w nL Q (k + mc) (n + ms) σ1 (pc + 3) lv (v.toList ++ st)) : GW Γ H locs cs ss Q (F0 (Gm Γ) pc ls st0) := by
  intro T hT X2
  obtain ⟨v2, st₀, t, T', L, h0, X', hL, e1, e2, ⟨hv, hp, hz, hk2⟩, stp⟩ := hr T hT X2
  cases hv
  rw [h0] at hz hk2
  obtain ⟨t2, a1, b1⟩ := kk T'.heap (locs ++ L) ls (cs + mc) (ss + ms) (by rw [e1]; exact hp) ⟨Nat.le_trans hS.1 (by rw [e1]; exact hz), fun q h1 h2 => by rw [e1, hk2 q (Nat.lt_of_lt_of_le h1 hS.1) h2]; exact hS.2.1 q h1 h2, fun q hq => by
      rcases List.mem_append.mp hq with h | h
      · exact hS.2.2 q h
      · exact hL q h⟩ hl (by omega) (by omega) T' rfl X'
  exact ⟨t2, stp t2 a1, b1⟩
/-- the callee's receiver: a static object, or a dynamic one -/
def Rc (D : DD) (B : Nat) (w : Bool) (σ : St) (C : String) (a : Nat) : Prop := ∃ (ci N : Nat) (T : u_T) (fs : List Value), vwCl[ci]? = some (C, T, N) ∧ ∀ H, Pic D B w σ H → va_at D.1 vwCl (B + a, .inr (ci, fs)) H
theorem Rc.s {D : DD} {B : Nat} {w : Bool} {σ : St} {C : String} {a ci N : Nat} {T : u_T} {fs : List Value} (hc : vwCl[ci]? = some (C, T, N)) (he : (cells D B w σ)[a]? = some (.inr (ci, fs))) : Rc D B w σ C a := ⟨ci, N, T, fs, hc, fun _ hP => hP.2.1 a _ he⟩
theorem Rc.d {D : DD} {B : Nat} {w : Bool} {σ : St} {C : String} {a ci N : Nat} {T : u_T} {o : (Nat → Int32) × (Nat → Option Nat) × (Nat → Int64)} (hc : vwCl[ci]? = some (C, T, N)) (he : gD σ a = some (.inl (ci, o))) : Rc D B w σ C a := ⟨ci, N, T, _, hc, fun _ hP => (hP.2.2 a _ he).2⟩
/-- a method of its own class or of another one, by its object -/
theorem r_callV (X : Cx Γ own cc nL D B rm) {C : String} {idx maxL fr lo mc ms a : Nat} {y : MethodName} {bytes : ByteArray} {ret : Option FieldType} {as : Nat → List Value} {v : Nat → Option Value} {σ1 : St} {As : List Value} (hC : CC w y (Cond.code y bytes maxL ret) fr lo as σ v σ1 mc ms) (has : as B = .ref (B + a) :: As)
    (hml : Cond.methodLink own idx y ∈ WT) (hin : Cond.instanceMethod y ∈ WT) (hse : Cond.selects C y y ∈ WT) (hini : Cond.initialized C ∈ WT) (hco : Cond.code y bytes maxL ret ∈ WT) (hd : y.cls = C ∧ y.cls ≠ "java/lang/invoke/MethodHandle" ∧ y.cls ≠ "java/lang/invoke/VarHandle" ∧ (parseMethodDescriptor y.desc).map (fun d => d.parameters.length) = some As.length) (hrc : Rc D B w σ C a)
    (hR : fr + 1 ≤ rm.frames ∧ 8 + (maxL + 11) + lo ≤ rm.locals) (hk1 : k + mc ≤ rm.cells) (hn1 : n + ms ≤ rm.slots) (hrm : (st.map fun v => v.category).sum ≤ 8) (d : decode cc pc = .ok (.invokevirtual idx, 3)) {pre : List Value} (hpre : pre = As.reverse ++ .ref (B + a) :: st)
    (kk : V Γ D B w nL Q (k + mc) (n + ms) σ1 (pc + 3) lv ((v B).toList ++ st)) : V Γ D B w nL Q k n σ pc lv pre := by
  subst hpre
  intro H locs ls cs ss hP hS hl hk hn
  have hR9 := X.2.2.2.2.2.2.2.2
  obtain ⟨ci, N, T, fs, hcl, hat⟩ := hrc
  refine w_call X hl hS (va_runV (As := As) (rest := st) ⟨X.1, X.2.1, X.2.2.1, X.2.2.2.1, X.2.2.2.2.1⟩ (hC Γ.2.1 D B) (cwV As.length X.2.2.2.2.1 (WT_cons hml (WT_cons hin (WT_cons hse (WT_cons hini (WT_call hco))))) rfl rfl rfl hd ⟨by show fr + 1 ≤ (GR Γ).frames; rw [hR9]; exact hR.1, by show 8 + (maxL + 11) + lo ≤ (GR Γ).locals; rw [hR9]; exact hR.2⟩) ⟨blind, recv X.2.2.2.2.2.1.1 hcl (hat H hP), fun U hU hW => ⟨by rw [has], by rw [hU]; exact hP, KK.moved hW X.2.2.2.2.2.1⟩⟩ rfl rfl hl.1 rfl (lv_room hrm) d ⟨by show cs + mc ≤ (GR Γ).cells; rw [hR9]; omega, by show ss + ms ≤ (GR Γ).slots; rw [hR9]; omega⟩) hk hn kk
/-- a static method -/
theorem r_callS (X : Cx Γ own cc nL D B rm) {idx maxL fr lo mc ms : Nat} {y : MethodName} {bytes : ByteArray} {ret : Option FieldType} {as : Nat → List Value} {v : Nat → Option Value} {σ1 : St} {As : List Value} (hC : CC w y (Cond.code y bytes maxL ret) fr lo as σ v σ1 mc ms) (has : as B = As)
    (hml : Cond.methodLink own idx y ∈ WT) (hstt : Cond.static y ∈ WT) (hini : Cond.initialized y.cls ∈ WT) (hco : Cond.code y bytes maxL ret ∈ WT) (hd : y.cls ≠ "java/lang/invoke/MethodHandle" ∧ y.cls ≠ "java/lang/invoke/VarHandle" ∧ (parseMethodDescriptor y.desc).map (fun d => d.parameters.length) = some As.length)
    (hR : fr + 1 ≤ rm.frames ∧ 8 + (maxL + 11) + lo ≤ rm.locals) (hk1 : k + mc ≤ rm.cells) (hn1 : n + ms ≤ rm.slots) (hrm : (st.map fun v => v.category).sum ≤ 8) (d : decode cc pc = .ok (.invokestatic idx, 3)) {pre : List Value} (hpre : pre = As.reverse ++ st)
    (kk : V Γ D B w nL Q (k + mc) (n + ms) σ1 (pc + 3) lv ((v B).toList ++ st)) : V Γ D B w nL Q k n σ pc lv pre := by
  subst hpre
  intro H locs ls cs ss hP hS hl hk hn
  have hR9 := X.2.2.2.2.2.2.2.2
  refine w_call X hl hS (va_runS (As := As) (rest := st) ⟨X.1, X.2.1, X.2.2.1, X.2.2.2.1, X.2.2.2.2.1⟩ (hC Γ.2.1 D B) (va_cwS As.length X.2.2.2.2.1 (WT_cons hml (WT_cons hstt (WT_cons hini (WT_call hco)))) rfl rfl rfl hd ⟨by show fr + 1 ≤ (GR Γ).frames; rw [hR9]; exact hR.1, by show 8 + (maxL + 11) + lo ≤ (GR Γ).locals; rw [hR9]; exact hR.2⟩) ⟨blind, fun U hU hW => ⟨by rw [has], by rw [hU]; exact hP, KK.moved hW X.2.2.2.2.2.1⟩⟩ rfl rfl hl.1 rfl (lv_room hrm) d ⟨by show cs + mc ≤ (GR Γ).cells; rw [hR9]; omega, by show ss + ms ≤ (GR Γ).slots; rw [hR9]; omega⟩) hk hn kk
/-- a private static method of the host -/
theorem r_callSN (X : Cx Γ own cc nL D B rm) {host : String} {idx maxL fr lo mc ms : Nat} {y : MethodName} {bytes : ByteArray} {ret : Option FieldType} {as : Nat → List Value} {v : Nat → Option Value} {σ1 : St} {As : List Value} (hC : CC w y (Cond.code y bytes maxL ret) fr lo as σ v σ1 mc ms) (has : as B = As)
    (hml : Cond.methodLinkNest own idx y host ∈ tables_1) (hstt : Cond.static y ∈ WT) (hini : Cond.initialized y.cls ∈ WT) (hco : Cond.code y bytes maxL ret ∈ WT) (hd : y.cls ≠ "java/lang/invoke/MethodHandle" ∧ y.cls ≠ "java/lang/invoke/VarHandle" ∧ (parseMethodDescriptor y.desc).map (fun d => d.parameters.length) = some As.length)
    (hR : fr + 1 ≤ rm.frames ∧ 8 + (maxL + 11) + lo ≤ rm.locals) (hk1 : k + mc ≤ rm.cells) (hn1 : n + ms ≤ rm.slots) (hrm : (st.map fun v => v.category).sum ≤ 8) (d : decode cc pc = .ok (.invokestatic idx, 3)) {pre : List Value} (hpre : pre = As.reverse ++ st)
    (kk : V Γ D B w nL Q (k + mc) (n + ms) σ1 (pc + 3) lv ((v B).toList ++ st)) : V Γ D B w nL Q k n σ pc lv pre := by
  subst hpre
  intro H locs ls cs ss hP hS hl hk hn
  have hR9 := X.2.2.2.2.2.2.2.2
  refine w_call X hl hS (va_runSN (As := As) (rest := st) ⟨X.1, X.2.1, X.2.2.1, X.2.2.2.1, X.2.2.2.2.1⟩ (hC Γ.2.1 D B) ⟨va_cnB As.length X.2.2.2.2.1 (WT_call hco) rfl rfl rfl (X.2.2.2.2.2.1.2 _ _ _ _ hml) (X.w hini) hd ⟨by show fr + 1 ≤ (GR Γ).frames; rw [hR9]; exact hR.1, by show 8 + (maxL + 11) + lo ≤ (GR Γ).locals; rw [hR9]; exact hR.2⟩, X.w hstt, trivial⟩ ⟨blind, fun U hU hW => ⟨by rw [has], by rw [hU]; exact hP, KK.moved hW X.2.2.2.2.2.1⟩⟩ rfl rfl hl.1 rfl (lv_room hrm) d ⟨by show cs + mc ≤ (GR Γ).cells; rw [hR9]; omega, by show ss + ms ≤ (GR Γ).slots; rw [hR9]; omega⟩) hk hn kk
/-- a constructor -/
theorem r_callI (X : Cx Γ own cc nL D B rm) {idx maxL fr lo mc ms a : Nat} {y : MethodName} {bytes : ByteArray} {as : Nat → List Value} {σ1 : St} {As : List Value} (hC : CC w y (Cond.code y bytes maxL none) fr lo as σ (fun _ => none) σ1 mc ms) (has : as B = .ref (B + a) :: As)
    (hml : Cond.methodLink own idx y ∈ WT) (hin : Cond.instanceMethod y ∈ WT) (hini : Cond.initialized y.cls ∈ WT) (hco : Cond.code y bytes maxL none ∈ WT) (hy1 : y.name = "<init>") (hd : y.cls ≠ "java/lang/invoke/MethodHandle" ∧ y.cls ≠ "java/lang/invoke/VarHandle" ∧ (parseMethodDescriptor y.desc).map (fun d => d.parameters.length) = some As.length)
    (hR : fr + 1 ≤ rm.frames ∧ 8 + (maxL + 11) + lo ≤ rm.locals) (hk1 : k + mc ≤ rm.cells) (hn1 : n + ms ≤ rm.slots) (hrm : (st.map fun v => v.category).sum ≤ 8) (d : decode cc pc = .ok (.invokespecial idx, 3)) {pre : List Value} (hpre : pre = As.reverse ++ .ref (B + a) :: st)
    (kk : V Γ D B w nL Q (k + mc) (n + ms) σ1 (pc + 3) lv st) : V Γ D B w nL Q k n σ pc lv pre := by
  subst hpre
  intro H locs ls cs ss hP hS hl hk hn
  have hR9 := X.2.2.2.2.2.2.2.2
  refine w_call X hl hS (v := none) (va_runI (As := As) (rest := st) ⟨X.1, X.2.1, X.2.2.1, X.2.2.2.1, X.2.2.2.2.1⟩ (hC Γ.2.1 D B) (cwI As.length X.2.2.2.2.1 (WT_call hco) rfl rfl rfl (X.w hini) (X.w hml) (X.w hin) hy1 hd ⟨by show fr + 1 ≤ (GR Γ).frames; rw [hR9]; exact hR.1, by show 8 + (maxL + 11) + lo ≤ (GR Γ).locals; rw [hR9]; exact hR.2⟩) ⟨blind, fun U hU hW => ⟨by rw [has], by rw [hU]; exact hP, KK.moved hW X.2.2.2.2.2.1⟩⟩ rfl rfl hl.1 rfl (lv_room hrm) d ⟨by show cs + mc ≤ (GR Γ).cells; rw [hR9]; omega, by show ss + ms ≤ (GR Γ).slots; rw [hR9]; omega⟩) hk hn kk
/-- a private constructor of a nest mate -/
theorem r_callIN (X : Cx Γ own cc nL D B rm) {host : String} {idx maxL fr lo mc ms a : Nat} {y : MethodName} {bytes : ByteArray} {as : Nat → List Value} {σ1 : St} {As : List Value} (hC : CC w y (Cond.code y bytes maxL none) fr lo as σ (fun _ => none) σ1 mc ms) (has : as B = .ref (B + a) :: As)
    (hml : Cond.methodLinkNest own idx y host ∈ tables_1) (hin : Cond.instanceMethod y ∈ WT) (hini : Cond.initialized y.cls ∈ WT) (hco : Cond.code y bytes maxL none ∈ WT) (hy1 : y.name = "<init>") (hd : y.cls ≠ "java/lang/invoke/MethodHandle" ∧ y.cls ≠ "java/lang/invoke/VarHandle" ∧ (parseMethodDescriptor y.desc).map (fun d => d.parameters.length) = some As.length)
    (hR : fr + 1 ≤ rm.frames ∧ 8 + (maxL + 11) + lo ≤ rm.locals) (hk1 : k + mc ≤ rm.cells) (hn1 : n + ms ≤ rm.slots) (hrm : (st.map fun v => v.category).sum ≤ 8) (d : decode cc pc = .ok (.invokespecial idx, 3)) {pre : List Value} (hpre : pre = As.reverse ++ .ref (B + a) :: st)
    (kk : V Γ D B w nL Q (k + mc) (n + ms) σ1 (pc + 3) lv st) : V Γ D B w nL Q k n σ pc lv pre := by
  subst hpre
  intro H locs ls cs ss hP hS hl hk hn
  have hR9 := X.2.2.2.2.2.2.2.2
  refine w_call X hl hS (v := none) (va_runIN (As := As) (rest := st) ⟨X.1, X.2.1, X.2.2.1, X.2.2.2.1, X.2.2.2.2.1⟩ (hC Γ.2.1 D B) ⟨va_cnB As.length X.2.2.2.2.1 (WT_call hco) rfl rfl rfl (X.2.2.2.2.2.1.2 _ _ _ _ hml) (X.w hini) hd ⟨by show fr + 1 ≤ (GR Γ).frames; rw [hR9]; exact hR.1, by show 8 + (maxL + 11) + lo ≤ (GR Γ).locals; rw [hR9]; exact hR.2⟩, hy1, X.w hin⟩ ⟨blind, fun U hU hW => ⟨by rw [has], by rw [hU]; exact hP, KK.moved hW X.2.2.2.2.2.1⟩⟩ rfl rfl hl.1 rfl (lv_room hrm) d ⟨by show cs + mc ≤ (GR Γ).cells; rw [hR9]; omega, by show ss + ms ≤ (GR Γ).slots; rw [hR9]; omega⟩) hk hn kk
theorem r_max (X : Cx Γ own cc nL D B rm) {idx : Nat} {x y : Int32} (hml : Cond.methodLink own idx Lib.Math.max.name ∈ WT) (hstt : Cond.static Lib.Math.max.name ∈ WT) (hini : Cond.initialized "java/lang/Math" ∈ WT) (hco : Cond.code Lib.Math.max.name Lib.Math.max.code 2 (some .int) ∈ WT) (hR : 1 ≤ rm.frames ∧ (st.map fun v => v.category).sum + 13 ≤ rm.locals) (hk1 : k ≤ rm.cells) (hn1 : n ≤ rm.slots) (d : decode cc pc = .ok (.invokestatic idx, 3))
    (kk : V Γ D B w nL Q k n σ (pc + 3) lv (.int (if x < y then y else x) :: st)) : V Γ D B w nL Q k n σ pc lv (.int y :: .int x :: st) :=
  fun H locs ls cs ss hP hS hl hk hn => va_mmax X.1 X.2.1 (X.2.2.1.trans hl.1.symm) X.2.2.2.1 (X.w hml) (X.w hstt) (X.w hini) (X.w hco) (by show _ ≤ (GR Γ).frames; rw [X.2.2.2.2.2.2.2.2]; exact hR.1) (by show _ ≤ (GR Γ).locals; rw [X.2.2.2.2.2.2.2.2]; exact hR.2) (by show _ ≤ (GR Γ).cells; rw [X.2.2.2.2.2.2.2.2]; omega) (by show _ ≤ (GR Γ).slots; rw [X.2.2.2.2.2.2.2.2]; omega) d (kk H locs ls cs ss hP hS hl hk hn)
theorem r_min (X : Cx Γ own cc nL D B rm) {idx : Nat} {x y : Int32} (hml : Cond.methodLink own idx Lib.Math.min.name ∈ WT) (hstt : Cond.static Lib.Math.min.name ∈ WT) (hini : Cond.initialized "java/lang/Math" ∈ WT) (hco : Cond.code Lib.Math.min.name Lib.Math.min.code 2 (some .int) ∈ WT) (hR : 1 ≤ rm.frames ∧ (st.map fun v => v.category).sum + 13 ≤ rm.locals) (hk1 : k ≤ rm.cells) (hn1 : n ≤ rm.slots) (d : decode cc pc = .ok (.invokestatic idx, 3))
    (kk : V Γ D B w nL Q k n σ (pc + 3) lv (.int (if y < x then y else x) :: st)) : V Γ D B w nL Q k n σ pc lv (.int y :: .int x :: st) :=
  fun H locs ls cs ss hP hS hl hk hn => va_mmin X.1 X.2.1 (X.2.2.1.trans hl.1.symm) X.2.2.2.1 (X.w hml) (X.w hstt) (X.w hini) (X.w hco) (by show _ ≤ (GR Γ).frames; rw [X.2.2.2.2.2.2.2.2]; exact hR.1) (by show _ ≤ (GR Γ).locals; rw [X.2.2.2.2.2.2.2.2]; exact hR.2) (by show _ ≤ (GR Γ).cells; rw [X.2.2.2.2.2.2.2.2]; omega) (by show _ ≤ (GR Γ).slots; rw [X.2.2.2.2.2.2.2.2]; omega) d (kk H locs ls cs ss hP hS hl hk hn)
variable {v0 : Option Value} {σ0 : St} {mc ms : Nat}
/-- the ends of a method that returns -/
abbrev QM (Γ : Ga) (D : DD) (B : Nat) (w : Bool) (σ' : St) (v : Option Value) (mc ms : Nat) : State → Prop := MQ (Gb Γ) (QR D B w σ' v) (Ga' Γ) (Gs Γ) mc ms (fun q => B ≤ q)
theorem e_iret (X : Cx Γ own cc nL D B rm) {x r : Int32} {σ' : St} (hr : (Gme Γ).sig.returnType = some .int) (hf : some (x, σ) = some (r, σ')) (hk1 : k ≤ mc) (hn1 : n ≤ ms) (d : decode cc pc = .ok (.ireturn, 1)) : V Γ D B w nL (QM Γ D B w σ' (some (.int r)) mc ms) k n σ pc lv [.int x] := by
  cases hf
  exact fun H locs ls cs ss hP hS hl hk hn => W.widen (by omega) (by omega) (W.iret X.1 X.2.1 hr (fun t ht hW => ⟨rfl, by rw [ht]; exact hP, hS.F ht⟩) hS.2.2 d X.2.2.2.2.2.2.1)
theorem e_zret (X : Cx Γ own cc nL D B rm) {x r : Int32} {σ' : St} (hr : (Gme Γ).sig.returnType = some .boolean) (hx : x = 0 ∨ x = 1) (hf : some (x, σ) = some (r, σ')) (hk1 : k ≤ mc) (hn1 : n ≤ ms) (d : decode cc pc = .ok (.ireturn, 1)) : V Γ D B w nL (QM Γ D B w σ' (some (.int r)) mc ms) k n σ pc lv [.int x] := by
  cases hf
  exact fun H locs ls cs ss hP hS hl hk hn => W.widen (by omega) (by omega) (W.zret X.1 X.2.1 hr (nar_z hx) (fun t ht hW => ⟨rfl, by rw [ht]; exact hP, hS.F ht⟩) hS.2.2 d X.2.2.2.2.2.2.1)
theorem e_lret (X : Cx Γ own cc nL D B rm) {x r : Int64} {σ' : St} (hr : (Gme Γ).sig.returnType = some .long) (hf : some (x, σ) = some (r, σ')) (hk1 : k ≤ mc) (hn1 : n ≤ ms) (d : decode cc pc = .ok (.lreturn, 1)) : V Γ D B w nL (QM Γ D B w σ' (some (.long r)) mc ms) k n σ pc lv [.long x] := by
  cases hf
  exact fun H locs ls cs ss hP hS hl hk hn => W.widen (by omega) (by omega) (W.lret X.1 X.2.1 hr (fun t ht hW => ⟨rfl, by rw [ht]; exact hP, hS.F ht⟩) hS.2.2 d X.2.2.2.2.2.2.1)
theorem e_vret (X : Cx Γ own cc nL D B rm) {σ' : St} (hr : (Gme Γ).sig.returnType = none) (hf : some σ = some σ') (hk1 : k ≤ mc) (hn1 : n ≤ ms) (d : decode cc pc = .ok (.return_, 1)) : V Γ D B w nL (QM Γ D B w σ' none mc ms) k n σ pc lv [] := by
  cases hf
  exact fun H locs ls cs ss hP hS hl hk hn => W.widen (by omega) (by omega) (W.vret X.1 X.2.1 hr (fun t ht hW => ⟨rfl, by rw [ht]; exact hP, hS.F ht⟩) hS.2.2 d X.2.2.2.2.2.2.1)
theorem e_aret (X : Cx Γ own cc nL D B rm) {x r : Option Nat} {σ' : St} {rt : String} (hr : (Gme Γ).sig.returnType = some (.object rt)) (hf : some (x, σ) = some (r, σ')) (hk1 : k ≤ mc) (hn1 : n ≤ ms) (d : decode cc pc = .ok (.areturn, 1)) : V Γ D B w nL (QM Γ D B w σ' (some (rfB B r)) mc ms) k n σ pc lv [rfB B x] := by
  cases hf
  exact fun H locs ls cs ss hP hS hl hk hn => W.widen (by omega) (by omega) (W.aret X.1 X.2.1 hr (Or.inl ⟨_, rfl⟩) (rfB_or B _) (fun t ht hW => ⟨rfl, by rw [ht]; exact hP, hS.F ht⟩) hS.2.2 d X.2.2.2.2.2.2.1)
end VC
