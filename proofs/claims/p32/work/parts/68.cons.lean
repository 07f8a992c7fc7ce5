/-! constructors: over a picture of dynamic cells alone -/
theorem hdvg {ci N : Nat} {ty0 : Nat → FieldType} (hl : (fty ci).length = N) (h : (List.range N).all (fun j => match (fty ci)[j]? with | none => true | some t => decide (defaultValue (ty0 j) = fv 0 (fun _ => 0, fun _ => none, fun _ => 0) j t)) = true) {B : Nat} : ∀ j t, (fty ci)[j]? = some t → defaultValue (ty0 j) = fv B (fun _ => 0, fun _ => none, fun _ => 0) j t := by
  intro j t ht
  have hj : j < N := by rw [← hl]; exact (List.getElem?_eq_some_iff.mp ht).1
  have h1 := List.all_eq_true.mp h j (List.mem_range.mpr hj)
  rw [ht] at h1
  have h2 := of_decide_eq_true h1
  rw [h2]
  unfold fv
  split <;> rfl
theorem hdv0 {B : Nat} : ∀ j t, (fty 0)[j]? = some t → defaultValue (tyX0 j) = fv B (fun _ => 0, fun _ => none, fun _ => 0) j t := hdvg (N := 7) rfl (by decide +kernel)
theorem hdv1 {B : Nat} : ∀ j t, (fty 1)[j]? = some t → defaultValue (tyX1 j) = fv B (fun _ => 0, fun _ => none, fun _ => 0) j t := hdvg (N := 6) rfl (by decide +kernel)
theorem hdv2 {B : Nat} : ∀ j t, (fty 2)[j]? = some t → defaultValue (tyX2 j) = fv B (fun _ => 0, fun _ => none, fun _ => 0) j t := hdvg (N := 10) rfl (by decide +kernel)
theorem hdv4 {B : Nat} : ∀ j t, (fty 4)[j]? = some t → defaultValue (tyX4 j) = fv B (fun _ => 0, fun _ => none, fun _ => 0) j t := hdvg (N := 3) rfl (by decide +kernel)
theorem hdv5 {B : Nat} : ∀ j t, (fty 5)[j]? = some t → defaultValue (tyX5 j) = fv B (fun _ => 0, fun _ => none, fun _ => 0) j t := hdvg (N := 7) rfl (by decide +kernel)
theorem hdv7 {B : Nat} : ∀ j t, (fty 7)[j]? = some t → defaultValue (tyX7 j) = fv B (fun _ => 0, fun _ => none, fun _ => 0) j t := hdvg (N := 3) rfl (by decide +kernel)
theorem hdv8 {B : Nat} : ∀ j t, (fty 8)[j]? = some t → defaultValue (tyX8 j) = fv B (fun _ => 0, fun _ => none, fun _ => 0) j t := hdvg (N := 7) rfl (by decide +kernel)
theorem hdv9 {B : Nat} : ∀ j t, (fty 9)[j]? = some t → defaultValue (tyX9 j) = fv B (fun _ => 0, fun _ => none, fun _ => 0) j t := hdvg (N := 1) rfl (by decide +kernel)
theorem hdv10 {B : Nat} : ∀ j t, (fty 10)[j]? = some t → defaultValue (tyX10 j) = fv B (fun _ => 0, fun _ => none, fun _ => 0) j t := hdvg (N := 12) rfl (by decide +kernel)
/-- a contract that asks for the class of rows of rules -/
def CO (w : Bool) (y : MethodName) (cy : Cond) (fr lo : Nat) (as : Nat → List Value) (σ : St) (v : Nat → Option Value) (σ' : St) (mc ms : Nat) : Prop :=
  ∀ (l : Launch) (D : DD) (B : Nat), Met l y (cy :: WT) { frames := fr, cells := mc, slots := ms, locals := lo } (va_Pc (as B) (fun U => Pic D B w σ U.heap ∧ KK D U ∧ va_AO RX6 U)) (QR D B w σ' (v B)) mc ms (fun q => B ≤ q)
theorem CO.of {w : Bool} {y : MethodName} {bytes : ByteArray} {maxL : Nat} {ret : Option FieldType} {fr lo : Nat} {as : Nat → List Value} {σ : St} {v : Nat → Option Value} {σ' : St} {mc ms : Nat} (lv : Nat → List (Nat × Value))
    (hy : plainName y.cls = true) (hlv : ∀ B, lv_args 0 (as B) = lv B) (hln : ∀ B, (lg_sl (as B)).length ≤ maxL)
    (hV : ∀ (Γ : Ga) (D : DD) (B : Nat), Cx Γ y.cls bytes maxL D B { frames := fr, cells := mc, slots := ms, locals := lo } → va_AO RX6 (Gs Γ) → (Gme Γ).sig.returnType = ret → (Gme Γ).name = y.name → V Γ D B w maxL (MQ (Gb Γ) (QR D B w σ' (v B)) (Ga' Γ) (Gs Γ) mc ms (fun q => B ≤ q)) 0 0 σ 0 (lv B) []) :
    CO w y (Cond.code y bytes maxL ret) fr lo as σ v σ' mc ms := by
  intro l D B
  refine Met.ofW (cc := bytes) (maxL := maxL) (ret := ret) hy rfl ?_
  intro p e s m args below meth c s₁ Bd hml hv
  obtain ⟨rfl, hP, hK, hAO⟩ := hv
  have hts := atoms_spec (ws := Cond.code y bytes maxL ret :: WT) Bd.pre
  have hown : s.vm.findClass y.cls = some m.cls := findClass_of_methodNamed Bd.named
  have hl := lv_entry (as B) (n := maxL) (hln B)
  rw [lg_entry_eq]
  rw [hlv B] at hl
  have hB : B ≤ s.heap.size := by rw [hP.1]; omega
  exact hV (p, l, e, _, s, m, _, below, meth, c) D B ⟨Bd.exec, Bd.bytes, hml, hown, fun x hx => hts x (List.mem_cons_of_mem _ hx), hK, Bd.notSynchronized, hB, rfl⟩ hAO Bd.returns (name_of_methodNamed Bd.named Bd.method).1 s.heap [] _ 0 0 hP va_S.rf hl (Nat.le_refl _) (Nat.le_refl _)
theorem va_AO.same {C : String} {u U : State} (hv : u.vm = U.vm) (h : va_AO C u) : va_AO C U := va_AO.moved (by rw [← hv]; exact Vm.Alike.refl u.vm) h
theorem blindO {as : List Value} {D : DD} {B : Nat} {w : Bool} {σ : St} : FrameBlind (va_Pc as (fun U => Pic D B w σ U.heap ∧ KK D U ∧ va_AO RX6 U)) :=
  fun a U g mk h => ⟨h.1, h.2.1, KK.same (s := U) (U := U.calling g mk a) rfl h.2.2.1, va_AO.same (u := U) (U := U.calling g mk a) rfl h.2.2.2⟩
section ZO
variable {Γ : Ga} {D : DD} {B : Nat} {w : Bool} {own : String} {cc : ByteArray} {nL : Nat} {rm : Room} {Q : State → Prop} {k n : Nat} {σ : St} {pc : Nat} {lv : List (Nat × Value)} {st : List Value}
theorem r_newq (X : Cx Γ own cc nL D B rm) (hAO : va_AO RX6 (Gs Γ)) {idx m : Nat} {i : Int32} (hcl : Cond.classLink own idx RX6 ∈ WT) (hi : ¬ i < 0) (hm : i.toNatClampNeg = m) (hb : m ≤ 5000) (hk1 : k + 1 ≤ rm.cells) (hn1 : n + m ≤ rm.slots) (d : decode cc pc = .ok (.anewarray idx, 3))
    (kk : V Γ D B w nL Q (k + 1) (n + m) (sN σ (.inr (.inr (.inr (m, fun _ => none))))) (pc + 3) lv (rfB B (some (sz σ)) :: st)) : V Γ D B w nL Q k n σ pc lv (.int i :: st) := by
  intro H locs ls cs ss hP hS hl hk hn
  have hR := X.2.2.2.2.2.2.2.2
  have hs := hP.1
  subst hm
  refine W.anew X.1 X.2.1 X.2.2.2.1 (X.w hcl) (va_AO.use hAO) rfl d rfl hi (by omega) (by show cs + 1 ≤ (GR Γ).cells; rw [hR]; omega) (by show ss + _ ≤ (GR Γ).slots; rw [hR]; omega) fun cA kA comp f1 f2 f3 f4 => ?_
  generalize hH1 : H.push ({ cls := cA, slots := Array.replicate i.toNatClampNeg .null, vm := .none } : Cell) = H1
  have z1 : H1.size = H.size + 1 := by rw [← hH1, Array.size_push]
  have e1 : H1[H.size]? = some (arrV cA i.toNatClampNeg (fun _ => .null)) := by rw [← hH1, Array.getElem?_push_size, ← arrV_new]
  have o1 : ∀ q : Nat, q < H.size → H1[q]? = H[q]? := fun q hq => by rw [← hH1, Array.getElem?_push, if_neg (Nat.ne_of_lt hq)]
  have hcA : cA = D.2 4 := by
    obtain ⟨-, -, -, -, -, -, h9⟩ := X.2.2.2.2.2.1.1.2 4 _ rfl
    exact Option.some.inj (f1.symm.trans h9)
  subst hcA
  have e2 : F0 (Gm Γ) (pc + 3) ls (Value.ref H.size :: st) = F0 (Gm Γ) (pc + 3) ls (rfB B (some (sz σ)) :: st) := by rw [hs]; rfl
  refine W.eq e2 (kk H1 locs ls (cs + 1) (ss + i.toNatClampNeg) (hP.born ?_ z1 o1) ⟨Nat.le_trans hS.1 (by omega), fun x h1 h2 => (o1 x (Nat.lt_of_lt_of_le h1 hS.1)).trans (hS.2.1 x h1 h2), hS.2.2⟩ hl (by omega) (by omega))
  exact e1
/-- a constructor that asks for the class of rows of rules -/
theorem o_callI (X : Cx Γ own cc nL D B rm) (hAO : va_AO RX6 (Gs Γ)) {idx maxL fr lo mc ms a : Nat} {y : MethodName} {bytes : ByteArray} {as : Nat → List Value} {σ1 : St} {As : List Value} (hC : CO w y (Cond.code y bytes maxL none) fr lo as σ (fun _ => none) σ1 mc ms) (has : as B = .ref (B + a) :: As)
    (hml : Cond.methodLink own idx y ∈ WT) (hin : Cond.instanceMethod y ∈ WT) (hini : Cond.initialized y.cls ∈ WT) (hco : Cond.code y bytes maxL none ∈ WT) (hy1 : y.name = "<init>") (hd : y.cls ≠ "java/lang/invoke/MethodHandle" ∧ y.cls ≠ "java/lang/invoke/VarHandle" ∧ (parseMethodDescriptor y.desc).map (fun d => d.parameters.length) = some As.length)
    (hR : fr + 1 ≤ rm.frames ∧ 8 + (maxL + 11) + lo ≤ rm.locals) (hk1 : k + mc ≤ rm.cells) (hn1 : n + ms ≤ rm.slots) (hrm : (st.map fun v => v.category).sum ≤ 8) (d : decode cc pc = .ok (.invokespecial idx, 3)) {pre : List Value} (hpre : pre = As.reverse ++ .ref (B + a) :: st)
    (kk : V Γ D B w nL Q (k + mc) (n + ms) σ1 (pc + 3) lv st) : V Γ D B w nL Q k n σ pc lv pre := by
  subst hpre
  intro H locs ls cs ss hP hS hl hk hn
  have hR9 := X.2.2.2.2.2.2.2.2
  refine w_call X hl hS (v := none) (va_runI (As := As) (rest := st) ⟨X.1, X.2.1, X.2.2.1, X.2.2.2.1, X.2.2.2.2.1⟩ (hC Γ.2.1 D B) (cwI As.length X.2.2.2.2.1 (WT_call hco) rfl rfl rfl (X.w hini) (X.w hml) (X.w hin) hy1 hd ⟨by show fr + 1 ≤ (GR Γ).frames; rw [hR9]; exact hR.1, by show 8 + (maxL + 11) + lo ≤ (GR Γ).locals; rw [hR9]; exact hR.2⟩) ⟨blindO, fun U hU hW => ⟨by rw [has], by rw [hU]; exact hP, KK.moved hW X.2.2.2.2.2.1, va_AO.moved hW.alike hAO⟩⟩ rfl rfl hl.1 rfl (lv_room hrm) d ⟨by show cs + mc ≤ (GR Γ).cells; rw [hR9]; omega, by show ss + ms ≤ (GR Γ).slots; rw [hR9]; omega⟩) hk hn kk
end ZO
theorem w_61 : Cond.methodLink RX10 3 objectInit ∈ WT := WT_in (List.mem_of_getElem? (i := 61) (by decide +kernel)) (by decide +kernel)
theorem w_109 : Cond.arrayClass .char ∈ WT := WT_in (List.mem_of_getElem? (i := 109) (by decide +kernel)) (by decide +kernel)
theorem w_66 : Cond.classLink RX10 29 RX2 ∈ WT := WT_in (List.mem_of_getElem? (i := 66) (by decide +kernel)) (by decide +kernel)
theorem w_67 : Cond.instantiable RX2 10 ∈ WT := WT_in (List.mem_of_getElem? (i := 67) (by decide +kernel)) (by decide +kernel)
theorem w_71 : Cond.methodLink RX2 3 objectInit ∈ WT := WT_in (List.mem_of_getElem? (i := 71) (by decide +kernel)) (by decide +kernel)
theorem wn_68 : Cond.methodLinkNest RX10 31 yX2_init "Pagerloom" ∈ tables_1 := List.mem_of_getElem? (i := 33) (by decide +kernel)
theorem w_69 : Cond.instanceMethod yX2_init ∈ WT := WT_in (List.mem_of_getElem? (i := 69) (by decide +kernel)) (by decide +kernel)
theorem w_70 : Cond.code yX2_init cX2_init 1 none ∈ WT := WT_in (List.mem_of_getElem? (i := 70) (by decide +kernel)) (by decide +kernel)
theorem w_111 : Cond.classLink RX10 36 RX5 ∈ WT := WT_in (List.mem_of_getElem? (i := 111) (by decide +kernel)) (by decide +kernel)
theorem w_112 : Cond.instantiable RX5 7 ∈ WT := WT_in (List.mem_of_getElem? (i := 112) (by decide +kernel)) (by decide +kernel)
theorem w_116 : Cond.methodLink RX5 3 objectInit ∈ WT := WT_in (List.mem_of_getElem? (i := 116) (by decide +kernel)) (by decide +kernel)
theorem w_117 : Cond.methodLink RX5 34 yJ7_fill_53178 ∈ WT := WT_in (List.mem_of_getElem? (i := 117) (by decide +kernel)) (by decide +kernel)
theorem w_118 : Cond.static yJ7_fill_53178 ∈ WT := WT_in (List.mem_of_getElem? (i := 118) (by decide +kernel)) (by decide +kernel)
theorem w_39 : Cond.initialized RJ7 ∈ WT := WT_in (List.mem_of_getElem? (i := 39) (by decide +kernel)) (by decide +kernel)
theorem w_119 : Cond.code yJ7_fill_53178 cJ7_fill_53178 4 none ∈ WT := WT_in (List.mem_of_getElem? (i := 119) (by decide +kernel)) (by decide +kernel)
theorem w_113 : Cond.methodLink RX10 38 yX5_init ∈ WT := WT_in (List.mem_of_getElem? (i := 113) (by decide +kernel)) (by decide +kernel)
theorem w_114 : Cond.instanceMethod yX5_init ∈ WT := WT_in (List.mem_of_getElem? (i := 114) (by decide +kernel)) (by decide +kernel)
theorem w_115 : Cond.code yX5_init cX5_init 1 none ∈ WT := WT_in (List.mem_of_getElem? (i := 115) (by decide +kernel)) (by decide +kernel)
theorem w_144 : Cond.classLink RX10 43 RX0 ∈ WT := WT_in (List.mem_of_getElem? (i := 144) (by decide +kernel)) (by decide +kernel)
theorem w_145 : Cond.instantiable RX0 7 ∈ WT := WT_in (List.mem_of_getElem? (i := 145) (by decide +kernel)) (by decide +kernel)
theorem w_149 : Cond.methodLink RX0 3 objectInit ∈ WT := WT_in (List.mem_of_getElem? (i := 149) (by decide +kernel)) (by decide +kernel)
theorem w_179 : Cond.arrayClass .boolean ∈ WT := WT_in (List.mem_of_getElem? (i := 179) (by decide +kernel)) (by decide +kernel)
theorem w_158 : Cond.fieldLink RX0 24 "Pagerloom$Alarms" "isAnswered" "[Z" ∈ WT := WT_in (List.mem_of_getElem? (i := 158) (by decide +kernel)) (by decide +kernel)
theorem wn_146 : Cond.methodLinkNest RX10 45 yX0_init "Pagerloom" ∈ tables_1 := List.mem_of_getElem? (i := 111) (by decide +kernel)
theorem w_147 : Cond.instanceMethod yX0_init ∈ WT := WT_in (List.mem_of_getElem? (i := 147) (by decide +kernel)) (by decide +kernel)
theorem w_148 : Cond.code yX0_init cX0_init 1 none ∈ WT := WT_in (List.mem_of_getElem? (i := 148) (by decide +kernel)) (by decide +kernel)
theorem w_180 : Cond.classLink RX10 50 RX4 ∈ WT := WT_in (List.mem_of_getElem? (i := 180) (by decide +kernel)) (by decide +kernel)
theorem w_181 : Cond.instantiable RX4 3 ∈ WT := WT_in (List.mem_of_getElem? (i := 181) (by decide +kernel)) (by decide +kernel)
theorem w_185 : Cond.methodLink RX4 3 objectInit ∈ WT := WT_in (List.mem_of_getElem? (i := 185) (by decide +kernel)) (by decide +kernel)
theorem wn_182 : Cond.methodLinkNest RX10 52 yX4_init "Pagerloom" ∈ tables_1 := List.mem_of_getElem? (i := 147) (by decide +kernel)
theorem w_183 : Cond.instanceMethod yX4_init ∈ WT := WT_in (List.mem_of_getElem? (i := 183) (by decide +kernel)) (by decide +kernel)
theorem w_184 : Cond.code yX4_init cX4_init 1 none ∈ WT := WT_in (List.mem_of_getElem? (i := 184) (by decide +kernel)) (by decide +kernel)
theorem w_196 : Cond.classLink RX10 57 RX1 ∈ WT := WT_in (List.mem_of_getElem? (i := 196) (by decide +kernel)) (by decide +kernel)
theorem w_197 : Cond.instantiable RX1 6 ∈ WT := WT_in (List.mem_of_getElem? (i := 197) (by decide +kernel)) (by decide +kernel)
theorem w_201 : Cond.methodLink RX1 3 objectInit ∈ WT := WT_in (List.mem_of_getElem? (i := 201) (by decide +kernel)) (by decide +kernel)
theorem wn_198 : Cond.methodLinkNest RX10 59 yX1_init "Pagerloom" ∈ tables_1 := List.mem_of_getElem? (i := 163) (by decide +kernel)
theorem w_199 : Cond.instanceMethod yX1_init ∈ WT := WT_in (List.mem_of_getElem? (i := 199) (by decide +kernel)) (by decide +kernel)
theorem w_200 : Cond.code yX1_init cX1_init 1 none ∈ WT := WT_in (List.mem_of_getElem? (i := 200) (by decide +kernel)) (by decide +kernel)
theorem w_223 : Cond.classLink RX10 64 RX9 ∈ WT := WT_in (List.mem_of_getElem? (i := 223) (by decide +kernel)) (by decide +kernel)
theorem w_224 : Cond.instantiable RX9 1 ∈ WT := WT_in (List.mem_of_getElem? (i := 224) (by decide +kernel)) (by decide +kernel)
theorem w_228 : Cond.methodLink RX9 3 objectInit ∈ WT := WT_in (List.mem_of_getElem? (i := 228) (by decide +kernel)) (by decide +kernel)
theorem w_229 : Cond.classLink RX9 9 RX8 ∈ WT := WT_in (List.mem_of_getElem? (i := 229) (by decide +kernel)) (by decide +kernel)
theorem w_230 : Cond.instantiable RX8 7 ∈ WT := WT_in (List.mem_of_getElem? (i := 230) (by decide +kernel)) (by decide +kernel)
theorem w_234 : Cond.methodLink RX8 3 objectInit ∈ WT := WT_in (List.mem_of_getElem? (i := 234) (by decide +kernel)) (by decide +kernel)
theorem wn_231 : Cond.methodLinkNest RX9 11 yX8_init "Pagerloom" ∈ tables_1 := List.mem_of_getElem? (i := 196) (by decide +kernel)
theorem w_232 : Cond.instanceMethod yX8_init ∈ WT := WT_in (List.mem_of_getElem? (i := 232) (by decide +kernel)) (by decide +kernel)
theorem w_233 : Cond.code yX8_init cX8_init 1 none ∈ WT := WT_in (List.mem_of_getElem? (i := 233) (by decide +kernel)) (by decide +kernel)
theorem wn_225 : Cond.methodLinkNest RX10 66 yX9_init "Pagerloom" ∈ tables_1 := List.mem_of_getElem? (i := 190) (by decide +kernel)
theorem w_226 : Cond.instanceMethod yX9_init ∈ WT := WT_in (List.mem_of_getElem? (i := 226) (by decide +kernel)) (by decide +kernel)
theorem w_227 : Cond.code yX9_init cX9_init 1 none ∈ WT := WT_in (List.mem_of_getElem? (i := 227) (by decide +kernel)) (by decide +kernel)
theorem w_261 : Cond.classLink RX10 71 RX7 ∈ WT := WT_in (List.mem_of_getElem? (i := 261) (by decide +kernel)) (by decide +kernel)
theorem w_262 : Cond.instantiable RX7 3 ∈ WT := WT_in (List.mem_of_getElem? (i := 262) (by decide +kernel)) (by decide +kernel)
theorem w_266 : Cond.methodLink RX7 3 objectInit ∈ WT := WT_in (List.mem_of_getElem? (i := 266) (by decide +kernel)) (by decide +kernel)
theorem w_267 : Cond.classLink RX7 9 RX8 ∈ WT := WT_in (List.mem_of_getElem? (i := 267) (by decide +kernel)) (by decide +kernel)
theorem wn_268 : Cond.methodLinkNest RX7 11 yX8_init "Pagerloom" ∈ tables_1 := List.mem_of_getElem? (i := 233) (by decide +kernel)
theorem w_279 : Cond.arrayClass .long ∈ WT := WT_in (List.mem_of_getElem? (i := 279) (by decide +kernel)) (by decide +kernel)
theorem wn_263 : Cond.methodLinkNest RX10 73 yX7_init "Pagerloom" ∈ tables_1 := List.mem_of_getElem? (i := 228) (by decide +kernel)
theorem w_264 : Cond.instanceMethod yX7_init ∈ WT := WT_in (List.mem_of_getElem? (i := 264) (by decide +kernel)) (by decide +kernel)
theorem w_265 : Cond.code yX7_init cX7_init 1 none ∈ WT := WT_in (List.mem_of_getElem? (i := 265) (by decide +kernel)) (by decide +kernel)
theorem hdS_X2_init : yX2_init.cls ≠ "java/lang/invoke/MethodHandle" ∧ yX2_init.cls ≠ "java/lang/invoke/VarHandle" ∧ (parseMethodDescriptor yX2_init.desc).map (fun d => d.parameters.length) = some 0 := by decide +kernel
theorem hdS_J7_fill_53178 : yJ7_fill_53178.cls ≠ "java/lang/invoke/MethodHandle" ∧ yJ7_fill_53178.cls ≠ "java/lang/invoke/VarHandle" ∧ (parseMethodDescriptor yJ7_fill_53178.desc).map (fun d => d.parameters.length) = some 2 := by decide +kernel
theorem hdS_X5_init : yX5_init.cls ≠ "java/lang/invoke/MethodHandle" ∧ yX5_init.cls ≠ "java/lang/invoke/VarHandle" ∧ (parseMethodDescriptor yX5_init.desc).map (fun d => d.parameters.length) = some 0 := by decide +kernel
theorem hdS_X0_init : yX0_init.cls ≠ "java/lang/invoke/MethodHandle" ∧ yX0_init.cls ≠ "java/lang/invoke/VarHandle" ∧ (parseMethodDescriptor yX0_init.desc).map (fun d => d.parameters.length) = some 0 := by decide +kernel
theorem hdS_X4_init : yX4_init.cls ≠ "java/lang/invoke/MethodHandle" ∧ yX4_init.cls ≠ "java/lang/invoke/VarHandle" ∧ (parseMethodDescriptor yX4_init.desc).map (fun d => d.parameters.length) = some 0 := by decide +kernel
theorem hdS_X1_init : yX1_init.cls ≠ "java/lang/invoke/MethodHandle" ∧ yX1_init.cls ≠ "java/lang/invoke/VarHandle" ∧ (parseMethodDescriptor yX1_init.desc).map (fun d => d.parameters.length) = some 0 := by decide +kernel
theorem hdS_X8_init : yX8_init.cls ≠ "java/lang/invoke/MethodHandle" ∧ yX8_init.cls ≠ "java/lang/invoke/VarHandle" ∧ (parseMethodDescriptor yX8_init.desc).map (fun d => d.parameters.length) = some 0 := by decide +kernel
theorem hdS_X9_init : yX9_init.cls ≠ "java/lang/invoke/MethodHandle" ∧ yX9_init.cls ≠ "java/lang/invoke/VarHandle" ∧ (parseMethodDescriptor yX9_init.desc).map (fun d => d.parameters.length) = some 0 := by decide +kernel
theorem hdS_X7_init : yX7_init.cls ≠ "java/lang/invoke/MethodHandle" ∧ yX7_init.cls ≠ "java/lang/invoke/VarHandle" ∧ (parseMethodDescriptor yX7_init.desc).map (fun d => d.parameters.length) = some 0 := by decide +kernel
/-! f_Logs_init -/
theorem dX2_init_0 : decode cX2_init 0 = .ok (.aload_n 0, 1) := by decide +kernel
theorem dX2_init_1 : decode cX2_init 1 = .ok (.invokespecial 3, 3) := by decide +kernel
theorem dX2_init_4 : decode cX2_init 4 = .ok (.aload_n 0, 1) := by decide +kernel
theorem dX2_init_5 : decode cX2_init 5 = .ok (.bipush 100, 2) := by decide +kernel
theorem dX2_init_7 : decode cX2_init 7 = .ok (.newarray .int, 2) := by decide +kernel
theorem dX2_init_9 : decode cX2_init 9 = .ok (.putfield 9, 3) := by decide +kernel
theorem dX2_init_12 : decode cX2_init 12 = .ok (.aload_n 0, 1) := by decide +kernel
theorem dX2_init_13 : decode cX2_init 13 = .ok (.bipush 100, 2) := by decide +kernel
theorem dX2_init_15 : decode cX2_init 15 = .ok (.newarray .int, 2) := by decide +kernel
theorem dX2_init_17 : decode cX2_init 17 = .ok (.putfield 15, 3) := by decide +kernel
theorem dX2_init_20 : decode cX2_init 20 = .ok (.aload_n 0, 1) := by decide +kernel
theorem dX2_init_21 : decode cX2_init 21 = .ok (.bipush 100, 2) := by decide +kernel
theorem dX2_init_23 : decode cX2_init 23 = .ok (.newarray .int, 2) := by decide +kernel
theorem dX2_init_25 : decode cX2_init 25 = .ok (.putfield 18, 3) := by decide +kernel
theorem dX2_init_28 : decode cX2_init 28 = .ok (.aload_n 0, 1) := by decide +kernel
theorem dX2_init_29 : decode cX2_init 29 = .ok (.bipush 100, 2) := by decide +kernel
theorem dX2_init_31 : decode cX2_init 31 = .ok (.newarray .int, 2) := by decide +kernel
theorem dX2_init_33 : decode cX2_init 33 = .ok (.putfield 21, 3) := by decide +kernel
theorem dX2_init_36 : decode cX2_init 36 = .ok (.aload_n 0, 1) := by decide +kernel
theorem dX2_init_37 : decode cX2_init 37 = .ok (.bipush 100, 2) := by decide +kernel
theorem dX2_init_39 : decode cX2_init 39 = .ok (.newarray .int, 2) := by decide +kernel
theorem dX2_init_41 : decode cX2_init 41 = .ok (.putfield 24, 3) := by decide +kernel
theorem dX2_init_44 : decode cX2_init 44 = .ok (.aload_n 0, 1) := by decide +kernel
theorem dX2_init_45 : decode cX2_init 45 = .ok (.bipush 100, 2) := by decide +kernel
theorem dX2_init_47 : decode cX2_init 47 = .ok (.newarray .int, 2) := by decide +kernel
theorem dX2_init_49 : decode cX2_init 49 = .ok (.putfield 27, 3) := by decide +kernel
theorem dX2_init_52 : decode cX2_init 52 = .ok (.aload_n 0, 1) := by decide +kernel
theorem dX2_init_53 : decode cX2_init 53 = .ok (.sipush 1002, 3) := by decide +kernel
theorem dX2_init_56 : decode cX2_init 56 = .ok (.newarray .int, 2) := by decide +kernel
theorem dX2_init_58 : decode cX2_init 58 = .ok (.putfield 30, 3) := by decide +kernel
theorem dX2_init_61 : decode cX2_init 61 = .ok (.aload_n 0, 1) := by decide +kernel
theorem dX2_init_62 : decode cX2_init 62 = .ok (.bipush 100, 2) := by decide +kernel
theorem dX2_init_64 : decode cX2_init 64 = .ok (.newarray .int, 2) := by decide +kernel
theorem dX2_init_66 : decode cX2_init 66 = .ok (.putfield 33, 3) := by decide +kernel
theorem dX2_init_69 : decode cX2_init 69 = .ok (.aload_n 0, 1) := by decide +kernel
theorem dX2_init_70 : decode cX2_init 70 = .ok (.iconst 0, 1) := by decide +kernel
theorem dX2_init_71 : decode cX2_init 71 = .ok (.putfield 36, 3) := by decide +kernel
theorem dX2_init_74 : decode cX2_init 74 = .ok (.aload_n 0, 1) := by decide +kernel
theorem dX2_init_75 : decode cX2_init 75 = .ok (.iconst 0, 1) := by decide +kernel
theorem dX2_init_76 : decode cX2_init 76 = .ok (.putfield 40, 3) := by decide +kernel
theorem dX2_init_79 : decode cX2_init 79 = .ok (.return_, 1) := by decide +kernel
def f_Logs_init (F : Nat) (s : St) (p0 : Option Nat) : Option (St) :=
  (dgo s p0 2).bind fun _ => (lt (sN s (.inr (.inl (1, 100, fun _ => 0)))) fun s1 => ((dgo s1 p0 2).bind fun o2 => (lt (sF s1 o2 2 (o2.2.1, ups o2.2.2.1 0 (some (sz s)), o2.2.2.2)) fun s3 => (lt (sN s3 (.inr (.inl (1, 100, fun _ => 0)))) fun s4 => ((dgo s4 p0 2).bind fun o5 => (lt (sF s4 o5 2 (o5.2.1, ups o5.2.2.1 1 (some (sz s3)), o5.2.2.2)) fun s6 => (lt (sN s6 (.inr (.inl (1, 100, fun _ => 0)))) fun s7 => ((dgo s7 p0 2).bind fun o8 => (lt (sF s7 o8 2 (o8.2.1, ups o8.2.2.1 2 (some (sz s6)), o8.2.2.2)) fun s9 => (lt (sN s9 (.inr (.inl (1, 100, fun _ => 0)))) fun s10 => ((dgo s10 p0 2).bind fun o11 => (lt (sF s10 o11 2 (o11.2.1, ups o11.2.2.1 3 (some (sz s9)), o11.2.2.2)) fun s12 => (lt (sN s12 (.inr (.inl (1, 100, fun _ => 0)))) fun s13 => ((dgo s13 p0 2).bind fun o14 => (lt (sF s13 o14 2 (o14.2.1, ups o14.2.2.1 4 (some (sz s12)), o14.2.2.2)) fun s15 => (lt (sN s15 (.inr (.inl (1, 100, fun _ => 0)))) fun s16 => ((dgo s16 p0 2).bind fun o17 => (lt (sF s16 o17 2 (o17.2.1, ups o17.2.2.1 5 (some (sz s15)), o17.2.2.2)) fun s18 => (lt (sN s18 (.inr (.inl (1, 1002, fun _ => 0)))) fun s19 => ((dgo s19 p0 2).bind fun o20 => (lt (sF s19 o20 2 (o20.2.1, ups o20.2.2.1 6 (some (sz s18)), o20.2.2.2)) fun s21 => (lt (sN s21 (.inr (.inl (1, 100, fun _ => 0)))) fun s22 => ((dgo s22 p0 2).bind fun o23 => (lt (sF s22 o23 2 (o23.2.1, ups o23.2.2.1 7 (some (sz s21)), o23.2.2.2)) fun s24 => ((dgo s24 p0 2).bind fun o25 => (lt (sF s24 o25 2 (ups o25.2.1 8 0, o25.2.2)) fun s26 => ((dgo s26 p0 2).bind fun o27 => (lt (sF s26 o27 2 (ups o27.2.1 9 0, o27.2.2)) fun s28 => (some s28)))))))))))))))))))))))))))))
set_option maxHeartbeats 1000000 in
theorem c_f_Logs_init {F : Nat} {s : St} {p0 : Option Nat} {s' : St} (hf : f_Logs_init F s p0 = some s') : CC false yX2_init (Cond.code yX2_init cX2_init 1 none) (1) (12) (fun B => [rfB B p0]) s (fun B => none) s' 8 1702 := by
  refine CC.of (fun B => [(0, rfB B p0)]) (by decide +kernel) (fun _ => (by simp [lv_args, rfB_cat, catI, catL, catR])) (fun _ => (by simp [lg_sl, rfB_cat, catI, catL, catR])) (fun Γ D B X hr hin => ?_)
  have X : Cx Γ RX2 cX2_init 1 D B { frames := 1, cells := 8, slots := 1702, locals := 12 } := X
  unfold f_Logs_init at hf
  refine r_aload_n (pc := 0) X dX2_init_0 0 rfl ?_
  refine b_recv (w := false) (B := B) (D := D) rfl hf (fun a hx hrc hf => ?_)
  refine r_objInit (pc := 1) X hx w_71 w_62 w_objcode (Nat.le_of_ble_eq_true rfl) (Nat.le_of_ble_eq_true rfl) dX2_init_1 ?_
  refine r_aload_n (pc := 4) X dX2_init_4 0 rfl ?_
  refine r_bipush (v := 100) (pc := 5) X dX2_init_5 (by decide) ?_
  refine r_newa (t := 1) (ty := .int) (atype := .int) (pc := 7) X w_110 rfl rfl (by decide) (by decide) (m := 100) (by decide) (by decide) (by decide) (by decide) dX2_init_7 ?_
  refine lts hf (fun s1 hf => ?_)
  refine b_dputR (j := 0) (pc := 9) X rfl inT2 tyX2 tyX2_ok nmX2 (by decide) w_72 (Or.inr ⟨rfl, hin, rfl⟩) (tyX2_ok 0 (by decide)) (Or.inr ⟨_, rfl⟩) rfl dX2_init_9 hf (fun o2 s3 hf => ?_)
  refine r_aload_n (pc := 12) X dX2_init_12 0 rfl ?_
  refine r_bipush (v := 100) (pc := 13) X dX2_init_13 (by decide) ?_
  refine r_newa (t := 1) (ty := .int) (atype := .int) (pc := 15) X w_110 rfl rfl (by decide) (by decide) (m := 100) (by decide) (by decide) (by decide) (by decide) dX2_init_15 ?_
  refine lts hf (fun s4 hf => ?_)
  refine b_dputR (j := 1) (pc := 17) X rfl inT2 tyX2 tyX2_ok nmX2 (by decide) w_73 (Or.inr ⟨rfl, hin, rfl⟩) (tyX2_ok 1 (by decide)) (Or.inr ⟨_, rfl⟩) rfl dX2_init_17 hf (fun o5 s6 hf => ?_)
  refine r_aload_n (pc := 20) X dX2_init_20 0 rfl ?_
  refine r_bipush (v := 100) (pc := 21) X dX2_init_21 (by decide) ?_
  refine r_newa (t := 1) (ty := .int) (atype := .int) (pc := 23) X w_110 rfl rfl (by decide) (by decide) (m := 100) (by decide) (by decide) (by decide) (by decide) dX2_init_23 ?_
  refine lts hf (fun s7 hf => ?_)
  refine b_dputR (j := 2) (pc := 25) X rfl inT2 tyX2 tyX2_ok nmX2 (by decide) w_74 (Or.inr ⟨rfl, hin, rfl⟩) (tyX2_ok 2 (by decide)) (Or.inr ⟨_, rfl⟩) rfl dX2_init_25 hf (fun o8 s9 hf => ?_)
  refine r_aload_n (pc := 28) X dX2_init_28 0 rfl ?_
  refine r_bipush (v := 100) (pc := 29) X dX2_init_29 (by decide) ?_
  refine r_newa (t := 1) (ty := .int) (atype := .int) (pc := 31) X w_110 rfl rfl (by decide) (by decide) (m := 100) (by decide) (by decide) (by decide) (by decide) dX2_init_31 ?_
  refine lts hf (fun s10 hf => ?_)
  refine b_dputR (j := 3) (pc := 33) X rfl inT2 tyX2 tyX2_ok nmX2 (by decide) w_75 (Or.inr ⟨rfl, hin, rfl⟩) (tyX2_ok 3 (by decide)) (Or.inr ⟨_, rfl⟩) rfl dX2_init_33 hf (fun o11 s12 hf => ?_)
  refine r_aload_n (pc := 36) X dX2_init_36 0 rfl ?_
  refine r_bipush (v := 100) (pc := 37) X dX2_init_37 (by decide) ?_
  refine r_newa (t := 1) (ty := .int) (atype := .int) (pc := 39) X w_110 rfl rfl (by decide) (by decide) (m := 100) (by decide) (by decide) (by decide) (by decide) dX2_init_39 ?_
  refine lts hf (fun s13 hf => ?_)
  refine b_dputR (j := 4) (pc := 41) X rfl inT2 tyX2 tyX2_ok nmX2 (by decide) w_76 (Or.inr ⟨rfl, hin, rfl⟩) (tyX2_ok 4 (by decide)) (Or.inr ⟨_, rfl⟩) rfl dX2_init_41 hf (fun o14 s15 hf => ?_)
  refine r_aload_n (pc := 44) X dX2_init_44 0 rfl ?_
  refine r_bipush (v := 100) (pc := 45) X dX2_init_45 (by decide) ?_
  refine r_newa (t := 1) (ty := .int) (atype := .int) (pc := 47) X w_110 rfl rfl (by decide) (by decide) (m := 100) (by decide) (by decide) (by decide) (by decide) dX2_init_47 ?_
  refine lts hf (fun s16 hf => ?_)
  refine b_dputR (j := 5) (pc := 49) X rfl inT2 tyX2 tyX2_ok nmX2 (by decide) w_77 (Or.inr ⟨rfl, hin, rfl⟩) (tyX2_ok 5 (by decide)) (Or.inr ⟨_, rfl⟩) rfl dX2_init_49 hf (fun o17 s18 hf => ?_)
  refine r_aload_n (pc := 52) X dX2_init_52 0 rfl ?_
  refine r_sipush (v := 1002) (pc := 53) X dX2_init_53 (by decide) ?_
  refine r_newa (t := 1) (ty := .int) (atype := .int) (pc := 56) X w_110 rfl rfl (by decide) (by decide) (m := 1002) (by decide) (by decide) (by decide) (by decide) dX2_init_56 ?_
  refine lts hf (fun s19 hf => ?_)
  refine b_dputR (j := 6) (pc := 58) X rfl inT2 tyX2 tyX2_ok nmX2 (by decide) w_78 (Or.inr ⟨rfl, hin, rfl⟩) (tyX2_ok 6 (by decide)) (Or.inr ⟨_, rfl⟩) rfl dX2_init_58 hf (fun o20 s21 hf => ?_)
  refine r_aload_n (pc := 61) X dX2_init_61 0 rfl ?_
  refine r_bipush (v := 100) (pc := 62) X dX2_init_62 (by decide) ?_
  refine r_newa (t := 1) (ty := .int) (atype := .int) (pc := 64) X w_110 rfl rfl (by decide) (by decide) (m := 100) (by decide) (by decide) (by decide) (by decide) dX2_init_64 ?_
  refine lts hf (fun s22 hf => ?_)
  refine b_dputR (j := 7) (pc := 66) X rfl inT2 tyX2 tyX2_ok nmX2 (by decide) w_79 (Or.inr ⟨rfl, hin, rfl⟩) (tyX2_ok 7 (by decide)) (Or.inr ⟨_, rfl⟩) rfl dX2_init_66 hf (fun o23 s24 hf => ?_)
  refine r_aload_n (pc := 69) X dX2_init_69 0 rfl ?_
  refine r_iconst (v := 0) (pc := 70) X dX2_init_70 (by decide) ?_
  refine b_dputI (j := 8) (pc := 71) X rfl inT2 tyX2 tyX2_ok nmX2 (by decide) w_82 (Or.inl rfl) (tyX2_ok 8 (by decide)) rfl rfl rfl dX2_init_71 hf (fun o25 s26 hf => ?_)
  refine r_aload_n (pc := 74) X dX2_init_74 0 rfl ?_
  refine r_iconst (v := 0) (pc := 75) X dX2_init_75 (by decide) ?_
  refine b_dputI (j := 9) (pc := 76) X rfl inT2 tyX2 tyX2_ok nmX2 (by decide) w_84 (Or.inl rfl) (tyX2_ok 9 (by decide)) rfl rfl rfl dX2_init_76 hf (fun o27 s28 hf => ?_)
  exact e_vret (pc := 79) X hr hf (by decide) (by decide) dX2_init_79
/-! f_fill -/
theorem dJ7_fill_53178_0 : decode cJ7_fill_53178 0 = .ok (.iconst 0, 1) := by decide +kernel
theorem dJ7_fill_53178_1 : decode cJ7_fill_53178 1 = .ok (.istore_n 2, 1) := by decide +kernel
theorem dJ7_fill_53178_2 : decode cJ7_fill_53178 2 = .ok (.aload_n 0, 1) := by decide +kernel
theorem dJ7_fill_53178_3 : decode cJ7_fill_53178 3 = .ok (.arraylength, 1) := by decide +kernel
theorem dJ7_fill_53178_4 : decode cJ7_fill_53178 4 = .ok (.istore_n 3, 1) := by decide +kernel
theorem dJ7_fill_53178_5 : decode cJ7_fill_53178 5 = .ok (.iload_n 2, 1) := by decide +kernel
theorem dJ7_fill_53178_6 : decode cJ7_fill_53178 6 = .ok (.iload_n 3, 1) := by decide +kernel
theorem dJ7_fill_53178_7 : decode cJ7_fill_53178 7 = .ok (.if_icmp .ge 13, 3) := by decide +kernel
theorem dJ7_fill_53178_10 : decode cJ7_fill_53178 10 = .ok (.aload_n 0, 1) := by decide +kernel
theorem dJ7_fill_53178_11 : decode cJ7_fill_53178 11 = .ok (.iload_n 2, 1) := by decide +kernel
theorem dJ7_fill_53178_12 : decode cJ7_fill_53178 12 = .ok (.iload_n 1, 1) := by decide +kernel
theorem dJ7_fill_53178_13 : decode cJ7_fill_53178 13 = .ok (.iastore, 1) := by decide +kernel
theorem dJ7_fill_53178_14 : decode cJ7_fill_53178 14 = .ok (.iinc 2 1, 3) := by decide +kernel
theorem dJ7_fill_53178_17 : decode cJ7_fill_53178 17 = .ok (.goto (-12), 3) := by decide +kernel
theorem dJ7_fill_53178_20 : decode cJ7_fill_53178 20 = .ok (.return_, 1) := by decide +kernel
def f_fill_b5 (F : Nat) : Nat → St → Option Nat → Int32 → Int32 → Int32 → Option (St)
  | 0, _, _, _, _, _ => none
  | n + 1, s, l0, l1, l2, l3 =>
    if l3 ≤ l2 then
      (some s)
    else
      ((dga s l0 1).bind fun o2 => ((ix o2.2.1 l2).bind fun j3 => (lt (sD s o2.1 (.inr (.inl (1, o2.2.1, ups o2.2.2 j3 l1)))) fun s4 => (f_fill_b5 F n s4 l0 l1 (l2 + 1) l3))))
def f_fill (F : Nat) (s : St) (p0 : Option Nat) (p1 : Int32) : Option (St) :=
  (dga s p0 1).bind fun o1 => (f_fill_b5 F F s p0 p1 0 (Int32.ofNat o1.2.1))
set_option maxHeartbeats 1000000 in
theorem c_f_fill_b5 {F : Nat} {Γ : Ga} {D : DD} {B : Nat} {s' : St} (X : Cx Γ RJ7 cJ7_fill_53178 4 D B { frames := 0, cells := 0, slots := 0, locals := 0 }) (hr : (Gme Γ).sig.returnType = none) : ∀ (n : Nat) {s : St} {l0 : Option Nat} {l1 : Int32} {l2 : Int32} {l3 : Int32}, f_fill_b5 F n s l0 l1 l2 l3 = some s' → V Γ D B false 4 (QM Γ D B false s' none 0 0) 0 0 s 5 [(0, rfB B l0), (1, .int l1), (2, .int l2), (3, .int l3)] [] := by
  intro n
  induction n with
  | zero => intro s l0 l1 l2 l3 hf; rw [f_fill_b5] at hf; cases hf
  | succ n ih =>
    intro s l0 l1 l2 l3 hf
    rw [f_fill_b5] at hf
    refine r_iload_n (pc := 5) X dJ7_fill_53178_5 2 rfl ?_
    refine r_iload_n (pc := 6) X dJ7_fill_53178_6 3 rfl ?_
    refine b_icmp_ge (tgt := 20) (pc := 7) X dJ7_fill_53178_7 (by decide) hf (fun hf => ?_) (fun hf => ?_)
    · exact e_vret (pc := 20) X hr hf (Nat.le_refl _) (Nat.le_refl _) dJ7_fill_53178_20
    · refine r_aload_n (pc := 10) X dJ7_fill_53178_10 0 rfl ?_
      refine r_iload_n (pc := 11) X dJ7_fill_53178_11 2 rfl ?_
      refine r_iload_n (pc := 12) X dJ7_fill_53178_12 1 rfl ?_
      refine b_dast (pc := 13) X dJ7_fill_53178_13 hf (fun o2 j3 s4 hf => ?_)
      refine r_iinc (v := l2 + 1) (lv' := [(0, rfB B l0), (1, .int l1), (2, .int (l2 + 1)), (3, .int l3)]) (pc := 14) X dJ7_fill_53178_14 2 rfl rfl (by decide) [1, 2, 0, 3] rfl ?_
      refine r_goto (tgt := 5) (pc := 17) X dJ7_fill_53178_17 (by decide) ?_
      exact ih hf
set_option maxHeartbeats 1000000 in
theorem c_f_fill {F : Nat} {s : St} {p0 : Option Nat} {p1 : Int32} {s' : St} (hf : f_fill F s p0 p1 = some s') : CC false yJ7_fill_53178 (Cond.code yJ7_fill_53178 cJ7_fill_53178 4 none) (0) (0) (fun B => [rfB B p0, .int p1]) s (fun B => none) s' 0 0 := by
  refine CC.of (fun B => [(0, rfB B p0), (1, .int p1)]) (by decide +kernel) (fun _ => (by simp [lv_args, rfB_cat, catI, catL, catR])) (fun _ => (by simp [lg_sl, rfB_cat, catI, catL, catR])) (fun Γ D B X hr hin => ?_)
  have X : Cx Γ RJ7 cJ7_fill_53178 4 D B { frames := 0, cells := 0, slots := 0, locals := 0 } := X
  unfold f_fill at hf
  refine r_iconst (v := 0) (pc := 0) X dJ7_fill_53178_0 (by decide) ?_
  refine r_istore_n (pc := 1) (lv' := [(0, rfB B p0), (1, .int p1), (2, .int 0)]) X dJ7_fill_53178_1 (by decide) [1, 2, 0] rfl ?_
  refine r_aload_n (pc := 2) X dJ7_fill_53178_2 0 rfl ?_
  refine b_dlen (t := 1) (pc := 3) X rfl dJ7_fill_53178_3 hf (fun o1 hf => ?_)
  refine r_istore_n (pc := 4) (lv' := [(0, rfB B p0), (1, .int p1), (2, .int 0), (3, .int (Int32.ofNat o1.2.1))]) X dJ7_fill_53178_4 (by decide) [1, 2, 3, 0] rfl ?_
  exact c_f_fill_b5 X hr _ hf
/-! f_Rota_init -/
theorem dX5_init_0 : decode cX5_init 0 = .ok (.aload_n 0, 1) := by decide +kernel
theorem dX5_init_1 : decode cX5_init 1 = .ok (.invokespecial 3, 3) := by decide +kernel
theorem dX5_init_4 : decode cX5_init 4 = .ok (.aload_n 0, 1) := by decide +kernel
theorem dX5_init_5 : decode cX5_init 5 = .ok (.iconst 0, 1) := by decide +kernel
theorem dX5_init_6 : decode cX5_init 6 = .ok (.putfield 9, 3) := by decide +kernel
theorem dX5_init_9 : decode cX5_init 9 = .ok (.aload_n 0, 1) := by decide +kernel
theorem dX5_init_10 : decode cX5_init 10 = .ok (.bipush 126, 2) := by decide +kernel
theorem dX5_init_12 : decode cX5_init 12 = .ok (.newarray .int, 2) := by decide +kernel
theorem dX5_init_14 : decode cX5_init 14 = .ok (.putfield 15, 3) := by decide +kernel
theorem dX5_init_17 : decode cX5_init 17 = .ok (.aload_n 0, 1) := by decide +kernel
theorem dX5_init_18 : decode cX5_init 18 = .ok (.bipush 126, 2) := by decide +kernel
theorem dX5_init_20 : decode cX5_init 20 = .ok (.newarray .int, 2) := by decide +kernel
theorem dX5_init_22 : decode cX5_init 22 = .ok (.putfield 19, 3) := by decide +kernel
theorem dX5_init_25 : decode cX5_init 25 = .ok (.aload_n 0, 1) := by decide +kernel
theorem dX5_init_26 : decode cX5_init 26 = .ok (.bipush 126, 2) := by decide +kernel
theorem dX5_init_28 : decode cX5_init 28 = .ok (.newarray .int, 2) := by decide +kernel
theorem dX5_init_30 : decode cX5_init 30 = .ok (.putfield 22, 3) := by decide +kernel
theorem dX5_init_33 : decode cX5_init 33 = .ok (.aload_n 0, 1) := by decide +kernel
theorem dX5_init_34 : decode cX5_init 34 = .ok (.sipush 4000, 3) := by decide +kernel
theorem dX5_init_37 : decode cX5_init 37 = .ok (.newarray .int, 2) := by decide +kernel
theorem dX5_init_39 : decode cX5_init 39 = .ok (.putfield 25, 3) := by decide +kernel
theorem dX5_init_42 : decode cX5_init 42 = .ok (.aload_n 0, 1) := by decide +kernel
theorem dX5_init_43 : decode cX5_init 43 = .ok (.sipush 4000, 3) := by decide +kernel
theorem dX5_init_46 : decode cX5_init 46 = .ok (.newarray .int, 2) := by decide +kernel
theorem dX5_init_48 : decode cX5_init 48 = .ok (.putfield 28, 3) := by decide +kernel
theorem dX5_init_51 : decode cX5_init 51 = .ok (.aload_n 0, 1) := by decide +kernel
theorem dX5_init_52 : decode cX5_init 52 = .ok (.iconst 0, 1) := by decide +kernel
theorem dX5_init_53 : decode cX5_init 53 = .ok (.putfield 31, 3) := by decide +kernel
theorem dX5_init_56 : decode cX5_init 56 = .ok (.aload_n 0, 1) := by decide +kernel
theorem dX5_init_57 : decode cX5_init 57 = .ok (.getfield 15, 3) := by decide +kernel
theorem dX5_init_60 : decode cX5_init 60 = .ok (.iconst (-1), 1) := by decide +kernel
theorem dX5_init_61 : decode cX5_init 61 = .ok (.invokestatic 34, 3) := by decide +kernel
theorem dX5_init_64 : decode cX5_init 64 = .ok (.aload_n 0, 1) := by decide +kernel
theorem dX5_init_65 : decode cX5_init 65 = .ok (.getfield 22, 3) := by decide +kernel
theorem dX5_init_68 : decode cX5_init 68 = .ok (.iconst (-1), 1) := by decide +kernel
theorem dX5_init_69 : decode cX5_init 69 = .ok (.invokestatic 34, 3) := by decide +kernel
theorem dX5_init_72 : decode cX5_init 72 = .ok (.return_, 1) := by decide +kernel
def f_Rota_init (F : Nat) (s : St) (p0 : Option Nat) : Option (St) :=
  (dgo s p0 5).bind fun _ => ((dgo s p0 5).bind fun o1 => (lt (sF s o1 5 (ups o1.2.1 0 0, o1.2.2)) fun s2 => (lt (sN s2 (.inr (.inl (1, 126, fun _ => 0)))) fun s3 => ((dgo s3 p0 5).bind fun o4 => (lt (sF s3 o4 5 (o4.2.1, ups o4.2.2.1 1 (some (sz s2)), o4.2.2.2)) fun s5 => (lt (sN s5 (.inr (.inl (1, 126, fun _ => 0)))) fun s6 => ((dgo s6 p0 5).bind fun o7 => (lt (sF s6 o7 5 (o7.2.1, ups o7.2.2.1 2 (some (sz s5)), o7.2.2.2)) fun s8 => (lt (sN s8 (.inr (.inl (1, 126, fun _ => 0)))) fun s9 => ((dgo s9 p0 5).bind fun o10 => (lt (sF s9 o10 5 (o10.2.1, ups o10.2.2.1 3 (some (sz s8)), o10.2.2.2)) fun s11 => (lt (sN s11 (.inr (.inl (1, 4000, fun _ => 0)))) fun s12 => ((dgo s12 p0 5).bind fun o13 => (lt (sF s12 o13 5 (o13.2.1, ups o13.2.2.1 4 (some (sz s11)), o13.2.2.2)) fun s14 => (lt (sN s14 (.inr (.inl (1, 4000, fun _ => 0)))) fun s15 => ((dgo s15 p0 5).bind fun o16 => (lt (sF s15 o16 5 (o16.2.1, ups o16.2.2.1 5 (some (sz s14)), o16.2.2.2)) fun s17 => ((dgo s17 p0 5).bind fun o18 => (lt (sF s17 o18 5 (ups o18.2.1 6 0, o18.2.2)) fun s19 => ((dgo s19 p0 5).bind fun o20 => ((f_fill F s19 (o20.2.2.1 1) (-1)).bind fun x21 => ((dgo x21 p0 5).bind fun o22 => ((f_fill F x21 (o22.2.2.1 3) (-1)).bind fun x23 => (some x23))))))))))))))))))))))))
set_option maxHeartbeats 1000000 in
theorem c_f_Rota_init {F : Nat} {s : St} {p0 : Option Nat} {s' : St} (hf : f_Rota_init F s p0 = some s') : CC false yX5_init (Cond.code yX5_init cX5_init 1 none) (1) (23) (fun B => [rfB B p0]) s (fun B => none) s' 5 8378 := by
  refine CC.of (fun B => [(0, rfB B p0)]) (by decide +kernel) (fun _ => (by simp [lv_args, rfB_cat, catI, catL, catR])) (fun _ => (by simp [lg_sl, rfB_cat, catI, catL, catR])) (fun Γ D B X hr hin => ?_)
  have X : Cx Γ RX5 cX5_init 1 D B { frames := 1, cells := 5, slots := 8378, locals := 23 } := X
  unfold f_Rota_init at hf
  refine r_aload_n (pc := 0) X dX5_init_0 0 rfl ?_
  refine b_recv (w := false) (B := B) (D := D) rfl hf (fun a hx hrc hf => ?_)
  refine r_objInit (pc := 1) X hx w_116 w_62 w_objcode (Nat.le_of_ble_eq_true rfl) (Nat.le_of_ble_eq_true rfl) dX5_init_1 ?_
  refine r_aload_n (pc := 4) X dX5_init_4 0 rfl ?_
  refine r_iconst (v := 0) (pc := 5) X dX5_init_5 (by decide) ?_
  refine b_dputI (j := 0) (pc := 6) X rfl inT5 tyX5 tyX5_ok nmX5 (by decide) w_120 (Or.inl rfl) (tyX5_ok 0 (by decide)) rfl rfl rfl dX5_init_6 hf (fun o1 s2 hf => ?_)
  refine r_aload_n (pc := 9) X dX5_init_9 0 rfl ?_
  refine r_bipush (v := 126) (pc := 10) X dX5_init_10 (by decide) ?_
  refine r_newa (t := 1) (ty := .int) (atype := .int) (pc := 12) X w_110 rfl rfl (by decide) (by decide) (m := 126) (by decide) (by decide) (by decide) (by decide) dX5_init_12 ?_
  refine lts hf (fun s3 hf => ?_)
  refine b_dputR (j := 1) (pc := 14) X rfl inT5 tyX5 tyX5_ok nmX5 (by decide) w_122 (Or.inr ⟨rfl, hin, rfl⟩) (tyX5_ok 1 (by decide)) (Or.inr ⟨_, rfl⟩) rfl dX5_init_14 hf (fun o4 s5 hf => ?_)
  refine r_aload_n (pc := 17) X dX5_init_17 0 rfl ?_
  refine r_bipush (v := 126) (pc := 18) X dX5_init_18 (by decide) ?_
  refine r_newa (t := 1) (ty := .int) (atype := .int) (pc := 20) X w_110 rfl rfl (by decide) (by decide) (m := 126) (by decide) (by decide) (by decide) (by decide) dX5_init_20 ?_
  refine lts hf (fun s6 hf => ?_)
  refine b_dputR (j := 2) (pc := 22) X rfl inT5 tyX5 tyX5_ok nmX5 (by decide) w_123 (Or.inr ⟨rfl, hin, rfl⟩) (tyX5_ok 2 (by decide)) (Or.inr ⟨_, rfl⟩) rfl dX5_init_22 hf (fun o7 s8 hf => ?_)
  refine r_aload_n (pc := 25) X dX5_init_25 0 rfl ?_
  refine r_bipush (v := 126) (pc := 26) X dX5_init_26 (by decide) ?_
  refine r_newa (t := 1) (ty := .int) (atype := .int) (pc := 28) X w_110 rfl rfl (by decide) (by decide) (m := 126) (by decide) (by decide) (by decide) (by decide) dX5_init_28 ?_
  refine lts hf (fun s9 hf => ?_)
  refine b_dputR (j := 3) (pc := 30) X rfl inT5 tyX5 tyX5_ok nmX5 (by decide) w_124 (Or.inr ⟨rfl, hin, rfl⟩) (tyX5_ok 3 (by decide)) (Or.inr ⟨_, rfl⟩) rfl dX5_init_30 hf (fun o10 s11 hf => ?_)
  refine r_aload_n (pc := 33) X dX5_init_33 0 rfl ?_
  refine r_sipush (v := 4000) (pc := 34) X dX5_init_34 (by decide) ?_
  refine r_newa (t := 1) (ty := .int) (atype := .int) (pc := 37) X w_110 rfl rfl (by decide) (by decide) (m := 4000) (by decide) (by decide) (by decide) (by decide) dX5_init_37 ?_
  refine lts hf (fun s12 hf => ?_)
  refine b_dputR (j := 4) (pc := 39) X rfl inT5 tyX5 tyX5_ok nmX5 (by decide) w_125 (Or.inr ⟨rfl, hin, rfl⟩) (tyX5_ok 4 (by decide)) (Or.inr ⟨_, rfl⟩) rfl dX5_init_39 hf (fun o13 s14 hf => ?_)
  refine r_aload_n (pc := 42) X dX5_init_42 0 rfl ?_
  refine r_sipush (v := 4000) (pc := 43) X dX5_init_43 (by decide) ?_
  refine r_newa (t := 1) (ty := .int) (atype := .int) (pc := 46) X w_110 rfl rfl (by decide) (by decide) (m := 4000) (by decide) (by decide) (by decide) (by decide) dX5_init_46 ?_
  refine lts hf (fun s15 hf => ?_)
  refine b_dputR (j := 5) (pc := 48) X rfl inT5 tyX5 tyX5_ok nmX5 (by decide) w_126 (Or.inr ⟨rfl, hin, rfl⟩) (tyX5_ok 5 (by decide)) (Or.inr ⟨_, rfl⟩) rfl dX5_init_48 hf (fun o16 s17 hf => ?_)
  refine r_aload_n (pc := 51) X dX5_init_51 0 rfl ?_
  refine r_iconst (v := 0) (pc := 52) X dX5_init_52 (by decide) ?_
  refine b_dputI (j := 6) (pc := 53) X rfl inT5 tyX5 tyX5_ok nmX5 (by decide) w_127 (Or.inl rfl) (tyX5_ok 6 (by decide)) rfl rfl rfl dX5_init_53 hf (fun o18 s19 hf => ?_)
  refine r_aload_n (pc := 56) X dX5_init_56 0 rfl ?_
  refine b_dgetR (j := 1) (pc := 57) X rfl inT5 (by decide) w_122 rfl dX5_init_57 hf (fun o20 hf => ?_)
  refine r_iconst (v := -1) (pc := 60) X dX5_init_60 (by decide) ?_
  refine bnd hf (fun x21 h21 hf => ?_)
  refine r_callSv (As := [rfB B (o20.2.2.1 1), .int (-1)]) (st := []) (pc := 61) X (c_f_fill h21) rfl w_117 w_118 w_39 w_119 hdS_J7_fill_53178 (by decide) (by decide) (by decide) (Nat.le_of_ble_eq_true rfl) dX5_init_61 rfl ?_
  refine r_aload_n (pc := 64) X dX5_init_64 0 rfl ?_
  refine b_dgetR (j := 3) (pc := 65) X rfl inT5 (by decide) w_124 rfl dX5_init_65 hf (fun o22 hf => ?_)
  refine r_iconst (v := -1) (pc := 68) X dX5_init_68 (by decide) ?_
  refine bnd hf (fun x23 h23 hf => ?_)
  refine r_callSv (As := [rfB B (o22.2.2.1 3), .int (-1)]) (st := []) (pc := 69) X (c_f_fill h23) rfl w_117 w_118 w_39 w_119 hdS_J7_fill_53178 (by decide) (by decide) (by decide) (Nat.le_of_ble_eq_true rfl) dX5_init_69 rfl ?_
  exact e_vret (pc := 72) X hr hf (by decide) (by decide) dX5_init_72
/-! f_Alarms_init -/
theorem dX0_init_0 : decode cX0_init 0 = .ok (.aload_n 0, 1) := by decide +kernel
theorem dX0_init_1 : decode cX0_init 1 = .ok (.invokespecial 3, 3) := by decide +kernel
theorem dX0_init_4 : decode cX0_init 4 = .ok (.aload_n 0, 1) := by decide +kernel
theorem dX0_init_5 : decode cX0_init 5 = .ok (.sipush 4000, 3) := by decide +kernel
theorem dX0_init_8 : decode cX0_init 8 = .ok (.newarray .int, 2) := by decide +kernel
theorem dX0_init_10 : decode cX0_init 10 = .ok (.putfield 9, 3) := by decide +kernel
theorem dX0_init_13 : decode cX0_init 13 = .ok (.aload_n 0, 1) := by decide +kernel
theorem dX0_init_14 : decode cX0_init 14 = .ok (.sipush 4000, 3) := by decide +kernel
theorem dX0_init_17 : decode cX0_init 17 = .ok (.newarray .int, 2) := by decide +kernel
theorem dX0_init_19 : decode cX0_init 19 = .ok (.putfield 15, 3) := by decide +kernel
theorem dX0_init_22 : decode cX0_init 22 = .ok (.aload_n 0, 1) := by decide +kernel
theorem dX0_init_23 : decode cX0_init 23 = .ok (.sipush 4000, 3) := by decide +kernel
theorem dX0_init_26 : decode cX0_init 26 = .ok (.newarray .int, 2) := by decide +kernel
theorem dX0_init_28 : decode cX0_init 28 = .ok (.putfield 18, 3) := by decide +kernel
theorem dX0_init_31 : decode cX0_init 31 = .ok (.aload_n 0, 1) := by decide +kernel
theorem dX0_init_32 : decode cX0_init 32 = .ok (.sipush 4000, 3) := by decide +kernel
theorem dX0_init_35 : decode cX0_init 35 = .ok (.newarray .int, 2) := by decide +kernel
theorem dX0_init_37 : decode cX0_init 37 = .ok (.putfield 21, 3) := by decide +kernel
theorem dX0_init_40 : decode cX0_init 40 = .ok (.aload_n 0, 1) := by decide +kernel
theorem dX0_init_41 : decode cX0_init 41 = .ok (.sipush 4000, 3) := by decide +kernel
theorem dX0_init_44 : decode cX0_init 44 = .ok (.newarray .boolean, 2) := by decide +kernel
theorem dX0_init_46 : decode cX0_init 46 = .ok (.putfield 24, 3) := by decide +kernel
theorem dX0_init_49 : decode cX0_init 49 = .ok (.aload_n 0, 1) := by decide +kernel
theorem dX0_init_50 : decode cX0_init 50 = .ok (.iconst 0, 1) := by decide +kernel
theorem dX0_init_51 : decode cX0_init 51 = .ok (.putfield 28, 3) := by decide +kernel
theorem dX0_init_54 : decode cX0_init 54 = .ok (.aload_n 0, 1) := by decide +kernel
theorem dX0_init_55 : decode cX0_init 55 = .ok (.iconst 0, 1) := by decide +kernel
theorem dX0_init_56 : decode cX0_init 56 = .ok (.putfield 32, 3) := by decide +kernel
theorem dX0_init_59 : decode cX0_init 59 = .ok (.return_, 1) := by decide +kernel
def f_Alarms_init (F : Nat) (s : St) (p0 : Option Nat) : Option (St) :=
  (dgo s p0 0).bind fun _ => (lt (sN s (.inr (.inl (1, 4000, fun _ => 0)))) fun s1 => ((dgo s1 p0 0).bind fun o2 => (lt (sF s1 o2 0 (o2.2.1, ups o2.2.2.1 0 (some (sz s)), o2.2.2.2)) fun s3 => (lt (sN s3 (.inr (.inl (1, 4000, fun _ => 0)))) fun s4 => ((dgo s4 p0 0).bind fun o5 => (lt (sF s4 o5 0 (o5.2.1, ups o5.2.2.1 1 (some (sz s3)), o5.2.2.2)) fun s6 => (lt (sN s6 (.inr (.inl (1, 4000, fun _ => 0)))) fun s7 => ((dgo s7 p0 0).bind fun o8 => (lt (sF s7 o8 0 (o8.2.1, ups o8.2.2.1 2 (some (sz s6)), o8.2.2.2)) fun s9 => (lt (sN s9 (.inr (.inl (1, 4000, fun _ => 0)))) fun s10 => ((dgo s10 p0 0).bind fun o11 => (lt (sF s10 o11 0 (o11.2.1, ups o11.2.2.1 3 (some (sz s9)), o11.2.2.2)) fun s12 => (lt (sN s12 (.inr (.inl (3, 4000, fun _ => 0)))) fun s13 => ((dgo s13 p0 0).bind fun o14 => (lt (sF s13 o14 0 (o14.2.1, ups o14.2.2.1 4 (some (sz s12)), o14.2.2.2)) fun s15 => ((dgo s15 p0 0).bind fun o16 => (lt (sF s15 o16 0 (ups o16.2.1 5 0, o16.2.2)) fun s17 => ((dgo s17 p0 0).bind fun o18 => (lt (sF s17 o18 0 (ups o18.2.1 6 0, o18.2.2)) fun s19 => (some s19))))))))))))))))))))
set_option maxHeartbeats 1000000 in
theorem c_f_Alarms_init {F : Nat} {s : St} {p0 : Option Nat} {s' : St} (hf : f_Alarms_init F s p0 = some s') : CC false yX0_init (Cond.code yX0_init cX0_init 1 none) (1) (12) (fun B => [rfB B p0]) s (fun B => none) s' 5 20000 := by
  refine CC.of (fun B => [(0, rfB B p0)]) (by decide +kernel) (fun _ => (by simp [lv_args, rfB_cat, catI, catL, catR])) (fun _ => (by simp [lg_sl, rfB_cat, catI, catL, catR])) (fun Γ D B X hr hin => ?_)
  have X : Cx Γ RX0 cX0_init 1 D B { frames := 1, cells := 5, slots := 20000, locals := 12 } := X
  unfold f_Alarms_init at hf
  refine r_aload_n (pc := 0) X dX0_init_0 0 rfl ?_
  refine b_recv (w := false) (B := B) (D := D) rfl hf (fun a hx hrc hf => ?_)
  refine r_objInit (pc := 1) X hx w_149 w_62 w_objcode (Nat.le_of_ble_eq_true rfl) (Nat.le_of_ble_eq_true rfl) dX0_init_1 ?_
  refine r_aload_n (pc := 4) X dX0_init_4 0 rfl ?_
  refine r_sipush (v := 4000) (pc := 5) X dX0_init_5 (by decide) ?_
  refine r_newa (t := 1) (ty := .int) (atype := .int) (pc := 8) X w_110 rfl rfl (by decide) (by decide) (m := 4000) (by decide) (by decide) (by decide) (by decide) dX0_init_8 ?_
  refine lts hf (fun s1 hf => ?_)
  refine b_dputR (j := 0) (pc := 10) X rfl inT0 tyX0 tyX0_ok nmX0 (by decide) w_150 (Or.inr ⟨rfl, hin, rfl⟩) (tyX0_ok 0 (by decide)) (Or.inr ⟨_, rfl⟩) rfl dX0_init_10 hf (fun o2 s3 hf => ?_)
  refine r_aload_n (pc := 13) X dX0_init_13 0 rfl ?_
  refine r_sipush (v := 4000) (pc := 14) X dX0_init_14 (by decide) ?_
  refine r_newa (t := 1) (ty := .int) (atype := .int) (pc := 17) X w_110 rfl rfl (by decide) (by decide) (m := 4000) (by decide) (by decide) (by decide) (by decide) dX0_init_17 ?_
  refine lts hf (fun s4 hf => ?_)
  refine b_dputR (j := 1) (pc := 19) X rfl inT0 tyX0 tyX0_ok nmX0 (by decide) w_152 (Or.inr ⟨rfl, hin, rfl⟩) (tyX0_ok 1 (by decide)) (Or.inr ⟨_, rfl⟩) rfl dX0_init_19 hf (fun o5 s6 hf => ?_)
  refine r_aload_n (pc := 22) X dX0_init_22 0 rfl ?_
  refine r_sipush (v := 4000) (pc := 23) X dX0_init_23 (by decide) ?_
  refine r_newa (t := 1) (ty := .int) (atype := .int) (pc := 26) X w_110 rfl rfl (by decide) (by decide) (m := 4000) (by decide) (by decide) (by decide) (by decide) dX0_init_26 ?_
  refine lts hf (fun s7 hf => ?_)
  refine b_dputR (j := 2) (pc := 28) X rfl inT0 tyX0 tyX0_ok nmX0 (by decide) w_154 (Or.inr ⟨rfl, hin, rfl⟩) (tyX0_ok 2 (by decide)) (Or.inr ⟨_, rfl⟩) rfl dX0_init_28 hf (fun o8 s9 hf => ?_)
  refine r_aload_n (pc := 31) X dX0_init_31 0 rfl ?_
  refine r_sipush (v := 4000) (pc := 32) X dX0_init_32 (by decide) ?_
  refine r_newa (t := 1) (ty := .int) (atype := .int) (pc := 35) X w_110 rfl rfl (by decide) (by decide) (m := 4000) (by decide) (by decide) (by decide) (by decide) dX0_init_35 ?_
  refine lts hf (fun s10 hf => ?_)
  refine b_dputR (j := 3) (pc := 37) X rfl inT0 tyX0 tyX0_ok nmX0 (by decide) w_156 (Or.inr ⟨rfl, hin, rfl⟩) (tyX0_ok 3 (by decide)) (Or.inr ⟨_, rfl⟩) rfl dX0_init_37 hf (fun o11 s12 hf => ?_)
  refine r_aload_n (pc := 40) X dX0_init_40 0 rfl ?_
  refine r_sipush (v := 4000) (pc := 41) X dX0_init_41 (by decide) ?_
  refine r_newa (t := 3) (ty := .boolean) (atype := .boolean) (pc := 44) X w_179 rfl rfl (by decide) (by decide) (m := 4000) (by decide) (by decide) (by decide) (by decide) dX0_init_44 ?_
  refine lts hf (fun s13 hf => ?_)
  refine b_dputR (j := 4) (pc := 46) X rfl inT0 tyX0 tyX0_ok nmX0 (by decide) w_158 (Or.inr ⟨rfl, hin, rfl⟩) (tyX0_ok 4 (by decide)) (Or.inr ⟨_, rfl⟩) rfl dX0_init_46 hf (fun o14 s15 hf => ?_)
  refine r_aload_n (pc := 49) X dX0_init_49 0 rfl ?_
  refine r_iconst (v := 0) (pc := 50) X dX0_init_50 (by decide) ?_
  refine b_dputI (j := 5) (pc := 51) X rfl inT0 tyX0 tyX0_ok nmX0 (by decide) w_160 (Or.inl rfl) (tyX0_ok 5 (by decide)) rfl rfl rfl dX0_init_51 hf (fun o16 s17 hf => ?_)
  refine r_aload_n (pc := 54) X dX0_init_54 0 rfl ?_
  refine r_iconst (v := 0) (pc := 55) X dX0_init_55 (by decide) ?_
  refine b_dputI (j := 6) (pc := 56) X rfl inT0 tyX0 tyX0_ok nmX0 (by decide) w_162 (Or.inl rfl) (tyX0_ok 6 (by decide)) rfl rfl rfl dX0_init_56 hf (fun o18 s19 hf => ?_)
  exact e_vret (pc := 59) X hr hf (by decide) (by decide) dX0_init_59
/-! f_Reader_init -/
theorem dX4_init_0 : decode cX4_init 0 = .ok (.aload_n 0, 1) := by decide +kernel
theorem dX4_init_1 : decode cX4_init 1 = .ok (.invokespecial 3, 3) := by decide +kernel
theorem dX4_init_4 : decode cX4_init 4 = .ok (.aload_n 0, 1) := by decide +kernel
theorem dX4_init_5 : decode cX4_init 5 = .ok (.iconst 0, 1) := by decide +kernel
theorem dX4_init_6 : decode cX4_init 6 = .ok (.newarray .char, 2) := by decide +kernel
theorem dX4_init_8 : decode cX4_init 8 = .ok (.putfield 9, 3) := by decide +kernel
theorem dX4_init_11 : decode cX4_init 11 = .ok (.aload_n 0, 1) := by decide +kernel
theorem dX4_init_12 : decode cX4_init 12 = .ok (.iconst 0, 1) := by decide +kernel
theorem dX4_init_13 : decode cX4_init 13 = .ok (.putfield 15, 3) := by decide +kernel
theorem dX4_init_16 : decode cX4_init 16 = .ok (.aload_n 0, 1) := by decide +kernel
theorem dX4_init_17 : decode cX4_init 17 = .ok (.iconst 0, 1) := by decide +kernel
theorem dX4_init_18 : decode cX4_init 18 = .ok (.putfield 19, 3) := by decide +kernel
theorem dX4_init_21 : decode cX4_init 21 = .ok (.return_, 1) := by decide +kernel
def f_Reader_init (F : Nat) (s : St) (p0 : Option Nat) : Option (St) :=
  (dgo s p0 4).bind fun _ => (lt (sN s (.inr (.inl (0, 0, fun _ => 0)))) fun s1 => ((dgo s1 p0 4).bind fun o2 => (lt (sF s1 o2 4 (o2.2.1, ups o2.2.2.1 0 (some (sz s)), o2.2.2.2)) fun s3 => ((dgo s3 p0 4).bind fun o4 => (lt (sF s3 o4 4 (ups o4.2.1 1 0, o4.2.2)) fun s5 => ((dgo s5 p0 4).bind fun o6 => (lt (sF s5 o6 4 (ups o6.2.1 2 0, o6.2.2)) fun s7 => (some s7))))))))
set_option maxHeartbeats 1000000 in
theorem c_f_Reader_init {F : Nat} {s : St} {p0 : Option Nat} {s' : St} (hf : f_Reader_init F s p0 = some s') : CC false yX4_init (Cond.code yX4_init cX4_init 1 none) (1) (12) (fun B => [rfB B p0]) s (fun B => none) s' 1 0 := by
  refine CC.of (fun B => [(0, rfB B p0)]) (by decide +kernel) (fun _ => (by simp [lv_args, rfB_cat, catI, catL, catR])) (fun _ => (by simp [lg_sl, rfB_cat, catI, catL, catR])) (fun Γ D B X hr hin => ?_)
  have X : Cx Γ RX4 cX4_init 1 D B { frames := 1, cells := 1, slots := 0, locals := 12 } := X
  unfold f_Reader_init at hf
  refine r_aload_n (pc := 0) X dX4_init_0 0 rfl ?_
  refine b_recv (w := false) (B := B) (D := D) rfl hf (fun a hx hrc hf => ?_)
  refine r_objInit (pc := 1) X hx w_185 w_62 w_objcode (Nat.le_of_ble_eq_true rfl) (Nat.le_of_ble_eq_true rfl) dX4_init_1 ?_
  refine r_aload_n (pc := 4) X dX4_init_4 0 rfl ?_
  refine r_iconst (v := 0) (pc := 5) X dX4_init_5 (by decide) ?_
  refine r_newa (t := 0) (ty := .char) (atype := .char) (pc := 6) X w_109 rfl rfl (by decide) (by decide) (m := 0) (by decide) (by decide) (by decide) (by decide) dX4_init_6 ?_
  refine lts hf (fun s1 hf => ?_)
  refine b_dputR (j := 0) (pc := 8) X rfl inT4 tyX4 tyX4_ok nmX4 (by decide) w_186 (Or.inl rfl) (tyX4_ok 0 (by decide)) (Or.inr ⟨_, rfl⟩) rfl dX4_init_8 hf (fun o2 s3 hf => ?_)
  refine r_aload_n (pc := 11) X dX4_init_11 0 rfl ?_
  refine r_iconst (v := 0) (pc := 12) X dX4_init_12 (by decide) ?_
  refine b_dputI (j := 1) (pc := 13) X rfl inT4 tyX4 tyX4_ok nmX4 (by decide) w_187 (Or.inl rfl) (tyX4_ok 1 (by decide)) rfl rfl rfl dX4_init_13 hf (fun o4 s5 hf => ?_)
  refine r_aload_n (pc := 16) X dX4_init_16 0 rfl ?_
  refine r_iconst (v := 0) (pc := 17) X dX4_init_17 (by decide) ?_
  refine b_dputI (j := 2) (pc := 18) X rfl inT4 tyX4 tyX4_ok nmX4 (by decide) w_188 (Or.inl rfl) (tyX4_ok 2 (by decide)) rfl rfl rfl dX4_init_18 hf (fun o6 s7 hf => ?_)
  exact e_vret (pc := 21) X hr hf (by decide) (by decide) dX4_init_21
/-! f_Coder_init -/
theorem dX1_init_0 : decode cX1_init 0 = .ok (.aload_n 0, 1) := by decide +kernel
theorem dX1_init_1 : decode cX1_init 1 = .ok (.invokespecial 3, 3) := by decide +kernel
theorem dX1_init_4 : decode cX1_init 4 = .ok (.aload_n 0, 1) := by decide +kernel
theorem dX1_init_5 : decode cX1_init 5 = .ok (.bipush 80, 2) := by decide +kernel
theorem dX1_init_7 : decode cX1_init 7 = .ok (.newarray .int, 2) := by decide +kernel
theorem dX1_init_9 : decode cX1_init 9 = .ok (.putfield 9, 3) := by decide +kernel
theorem dX1_init_12 : decode cX1_init 12 = .ok (.aload_n 0, 1) := by decide +kernel
theorem dX1_init_13 : decode cX1_init 13 = .ok (.iconst 0, 1) := by decide +kernel
theorem dX1_init_14 : decode cX1_init 14 = .ok (.putfield 15, 3) := by decide +kernel
theorem dX1_init_17 : decode cX1_init 17 = .ok (.aload_n 0, 1) := by decide +kernel
theorem dX1_init_18 : decode cX1_init 18 = .ok (.bipush 40, 2) := by decide +kernel
theorem dX1_init_20 : decode cX1_init 20 = .ok (.newarray .int, 2) := by decide +kernel
theorem dX1_init_22 : decode cX1_init 22 = .ok (.putfield 19, 3) := by decide +kernel
theorem dX1_init_25 : decode cX1_init 25 = .ok (.aload_n 0, 1) := by decide +kernel
theorem dX1_init_26 : decode cX1_init 26 = .ok (.bipush 40, 2) := by decide +kernel
theorem dX1_init_28 : decode cX1_init 28 = .ok (.newarray .int, 2) := by decide +kernel
theorem dX1_init_30 : decode cX1_init 30 = .ok (.putfield 22, 3) := by decide +kernel
theorem dX1_init_33 : decode cX1_init 33 = .ok (.aload_n 0, 1) := by decide +kernel
theorem dX1_init_34 : decode cX1_init 34 = .ok (.iconst 0, 1) := by decide +kernel
theorem dX1_init_35 : decode cX1_init 35 = .ok (.putfield 25, 3) := by decide +kernel
theorem dX1_init_38 : decode cX1_init 38 = .ok (.aload_n 0, 1) := by decide +kernel
theorem dX1_init_39 : decode cX1_init 39 = .ok (.iconst 0, 1) := by decide +kernel
theorem dX1_init_40 : decode cX1_init 40 = .ok (.putfield 28, 3) := by decide +kernel
theorem dX1_init_43 : decode cX1_init 43 = .ok (.return_, 1) := by decide +kernel
def f_Coder_init (F : Nat) (s : St) (p0 : Option Nat) : Option (St) :=
  (dgo s p0 1).bind fun _ => (lt (sN s (.inr (.inl (1, 80, fun _ => 0)))) fun s1 => ((dgo s1 p0 1).bind fun o2 => (lt (sF s1 o2 1 (o2.2.1, ups o2.2.2.1 0 (some (sz s)), o2.2.2.2)) fun s3 => ((dgo s3 p0 1).bind fun o4 => (lt (sF s3 o4 1 (ups o4.2.1 1 0, o4.2.2)) fun s5 => (lt (sN s5 (.inr (.inl (1, 40, fun _ => 0)))) fun s6 => ((dgo s6 p0 1).bind fun o7 => (lt (sF s6 o7 1 (o7.2.1, ups o7.2.2.1 2 (some (sz s5)), o7.2.2.2)) fun s8 => (lt (sN s8 (.inr (.inl (1, 40, fun _ => 0)))) fun s9 => ((dgo s9 p0 1).bind fun o10 => (lt (sF s9 o10 1 (o10.2.1, ups o10.2.2.1 3 (some (sz s8)), o10.2.2.2)) fun s11 => ((dgo s11 p0 1).bind fun o12 => (lt (sF s11 o12 1 (ups o12.2.1 4 0, o12.2.2)) fun s13 => ((dgo s13 p0 1).bind fun o14 => (lt (sF s13 o14 1 (ups o14.2.1 5 0, o14.2.2)) fun s15 => (some s15))))))))))))))))
set_option maxHeartbeats 1000000 in
theorem c_f_Coder_init {F : Nat} {s : St} {p0 : Option Nat} {s' : St} (hf : f_Coder_init F s p0 = some s') : CC false yX1_init (Cond.code yX1_init cX1_init 1 none) (1) (12) (fun B => [rfB B p0]) s (fun B => none) s' 3 160 := by
  refine CC.of (fun B => [(0, rfB B p0)]) (by decide +kernel) (fun _ => (by simp [lv_args, rfB_cat, catI, catL, catR])) (fun _ => (by simp [lg_sl, rfB_cat, catI, catL, catR])) (fun Γ D B X hr hin => ?_)
  have X : Cx Γ RX1 cX1_init 1 D B { frames := 1, cells := 3, slots := 160, locals := 12 } := X
  unfold f_Coder_init at hf
  refine r_aload_n (pc := 0) X dX1_init_0 0 rfl ?_
  refine b_recv (w := false) (B := B) (D := D) rfl hf (fun a hx hrc hf => ?_)
  refine r_objInit (pc := 1) X hx w_201 w_62 w_objcode (Nat.le_of_ble_eq_true rfl) (Nat.le_of_ble_eq_true rfl) dX1_init_1 ?_
  refine r_aload_n (pc := 4) X dX1_init_4 0 rfl ?_
  refine r_bipush (v := 80) (pc := 5) X dX1_init_5 (by decide) ?_
  refine r_newa (t := 1) (ty := .int) (atype := .int) (pc := 7) X w_110 rfl rfl (by decide) (by decide) (m := 80) (by decide) (by decide) (by decide) (by decide) dX1_init_7 ?_
  refine lts hf (fun s1 hf => ?_)
  refine b_dputR (j := 0) (pc := 9) X rfl inT1 tyX1 tyX1_ok nmX1 (by decide) w_202 (Or.inr ⟨rfl, hin, rfl⟩) (tyX1_ok 0 (by decide)) (Or.inr ⟨_, rfl⟩) rfl dX1_init_9 hf (fun o2 s3 hf => ?_)
  refine r_aload_n (pc := 12) X dX1_init_12 0 rfl ?_
  refine r_iconst (v := 0) (pc := 13) X dX1_init_13 (by decide) ?_
  refine b_dputI (j := 1) (pc := 14) X rfl inT1 tyX1 tyX1_ok nmX1 (by decide) w_204 (Or.inl rfl) (tyX1_ok 1 (by decide)) rfl rfl rfl dX1_init_14 hf (fun o4 s5 hf => ?_)
  refine r_aload_n (pc := 17) X dX1_init_17 0 rfl ?_
  refine r_bipush (v := 40) (pc := 18) X dX1_init_18 (by decide) ?_
  refine r_newa (t := 1) (ty := .int) (atype := .int) (pc := 20) X w_110 rfl rfl (by decide) (by decide) (m := 40) (by decide) (by decide) (by decide) (by decide) dX1_init_20 ?_
  refine lts hf (fun s6 hf => ?_)
  refine b_dputR (j := 2) (pc := 22) X rfl inT1 tyX1 tyX1_ok nmX1 (by decide) w_206 (Or.inr ⟨rfl, hin, rfl⟩) (tyX1_ok 2 (by decide)) (Or.inr ⟨_, rfl⟩) rfl dX1_init_22 hf (fun o7 s8 hf => ?_)
  refine r_aload_n (pc := 25) X dX1_init_25 0 rfl ?_
  refine r_bipush (v := 40) (pc := 26) X dX1_init_26 (by decide) ?_
  refine r_newa (t := 1) (ty := .int) (atype := .int) (pc := 28) X w_110 rfl rfl (by decide) (by decide) (m := 40) (by decide) (by decide) (by decide) (by decide) dX1_init_28 ?_
  refine lts hf (fun s9 hf => ?_)
  refine b_dputR (j := 3) (pc := 30) X rfl inT1 tyX1 tyX1_ok nmX1 (by decide) w_207 (Or.inr ⟨rfl, hin, rfl⟩) (tyX1_ok 3 (by decide)) (Or.inr ⟨_, rfl⟩) rfl dX1_init_30 hf (fun o10 s11 hf => ?_)
  refine r_aload_n (pc := 33) X dX1_init_33 0 rfl ?_
  refine r_iconst (v := 0) (pc := 34) X dX1_init_34 (by decide) ?_
  refine b_dputI (j := 4) (pc := 35) X rfl inT1 tyX1 tyX1_ok nmX1 (by decide) w_208 (Or.inl rfl) (tyX1_ok 4 (by decide)) rfl rfl rfl dX1_init_35 hf (fun o12 s13 hf => ?_)
  refine r_aload_n (pc := 38) X dX1_init_38 0 rfl ?_
  refine r_iconst (v := 0) (pc := 39) X dX1_init_39 (by decide) ?_
  refine b_dputI (j := 5) (pc := 40) X rfl inT1 tyX1 tyX1_ok nmX1 (by decide) w_209 (Or.inl rfl) (tyX1_ok 5 (by decide)) rfl rfl rfl dX1_init_40 hf (fun o14 s15 hf => ?_)
  exact e_vret (pc := 43) X hr hf (by decide) (by decide) dX1_init_43
/-! f_Tally_init -/
theorem dX8_init_0 : decode cX8_init 0 = .ok (.aload_n 0, 1) := by decide +kernel
theorem dX8_init_1 : decode cX8_init 1 = .ok (.invokespecial 3, 3) := by decide +kernel
theorem dX8_init_4 : decode cX8_init 4 = .ok (.aload_n 0, 1) := by decide +kernel
theorem dX8_init_5 : decode cX8_init 5 = .ok (.bipush 100, 2) := by decide +kernel
theorem dX8_init_7 : decode cX8_init 7 = .ok (.newarray .int, 2) := by decide +kernel
theorem dX8_init_9 : decode cX8_init 9 = .ok (.putfield 9, 3) := by decide +kernel
theorem dX8_init_12 : decode cX8_init 12 = .ok (.aload_n 0, 1) := by decide +kernel
theorem dX8_init_13 : decode cX8_init 13 = .ok (.iconst 0, 1) := by decide +kernel
theorem dX8_init_14 : decode cX8_init 14 = .ok (.putfield 15, 3) := by decide +kernel
theorem dX8_init_17 : decode cX8_init 17 = .ok (.aload_n 0, 1) := by decide +kernel
theorem dX8_init_18 : decode cX8_init 18 = .ok (.lconst 0, 1) := by decide +kernel
theorem dX8_init_19 : decode cX8_init 19 = .ok (.putfield 19, 3) := by decide +kernel
theorem dX8_init_22 : decode cX8_init 22 = .ok (.aload_n 0, 1) := by decide +kernel
theorem dX8_init_23 : decode cX8_init 23 = .ok (.iconst 0, 1) := by decide +kernel
theorem dX8_init_24 : decode cX8_init 24 = .ok (.putfield 23, 3) := by decide +kernel
theorem dX8_init_27 : decode cX8_init 27 = .ok (.aload_n 0, 1) := by decide +kernel
theorem dX8_init_28 : decode cX8_init 28 = .ok (.iconst 0, 1) := by decide +kernel
theorem dX8_init_29 : decode cX8_init 29 = .ok (.putfield 26, 3) := by decide +kernel
theorem dX8_init_32 : decode cX8_init 32 = .ok (.aload_n 0, 1) := by decide +kernel
theorem dX8_init_33 : decode cX8_init 33 = .ok (.iconst 0, 1) := by decide +kernel
theorem dX8_init_34 : decode cX8_init 34 = .ok (.putfield 29, 3) := by decide +kernel
theorem dX8_init_37 : decode cX8_init 37 = .ok (.aload_n 0, 1) := by decide +kernel
theorem dX8_init_38 : decode cX8_init 38 = .ok (.sipush 2001, 3) := by decide +kernel
theorem dX8_init_41 : decode cX8_init 41 = .ok (.newarray .int, 2) := by decide +kernel
theorem dX8_init_43 : decode cX8_init 43 = .ok (.putfield 32, 3) := by decide +kernel
theorem dX8_init_46 : decode cX8_init 46 = .ok (.return_, 1) := by decide +kernel
def f_Tally_init (F : Nat) (s : St) (p0 : Option Nat) : Option (St) :=
  (dgo s p0 8).bind fun _ => (lt (sN s (.inr (.inl (1, 100, fun _ => 0)))) fun s1 => ((dgo s1 p0 8).bind fun o2 => (lt (sF s1 o2 8 (o2.2.1, ups o2.2.2.1 0 (some (sz s)), o2.2.2.2)) fun s3 => ((dgo s3 p0 8).bind fun o4 => (lt (sF s3 o4 8 (ups o4.2.1 1 0, o4.2.2)) fun s5 => ((dgo s5 p0 8).bind fun o6 => (lt (sF s5 o6 8 (o6.2.1, o6.2.2.1, ups o6.2.2.2 2 0)) fun s7 => ((dgo s7 p0 8).bind fun o8 => (lt (sF s7 o8 8 (ups o8.2.1 3 0, o8.2.2)) fun s9 => ((dgo s9 p0 8).bind fun o10 => (lt (sF s9 o10 8 (ups o10.2.1 4 0, o10.2.2)) fun s11 => ((dgo s11 p0 8).bind fun o12 => (lt (sF s11 o12 8 (ups o12.2.1 5 0, o12.2.2)) fun s13 => (lt (sN s13 (.inr (.inl (1, 2001, fun _ => 0)))) fun s14 => ((dgo s14 p0 8).bind fun o15 => (lt (sF s14 o15 8 (o15.2.1, ups o15.2.2.1 6 (some (sz s13)), o15.2.2.2)) fun s16 => (some s16)))))))))))))))))
set_option maxHeartbeats 1000000 in
theorem c_f_Tally_init {F : Nat} {s : St} {p0 : Option Nat} {s' : St} (hf : f_Tally_init F s p0 = some s') : CC false yX8_init (Cond.code yX8_init cX8_init 1 none) (1) (12) (fun B => [rfB B p0]) s (fun B => none) s' 2 2101 := by
  refine CC.of (fun B => [(0, rfB B p0)]) (by decide +kernel) (fun _ => (by simp [lv_args, rfB_cat, catI, catL, catR])) (fun _ => (by simp [lg_sl, rfB_cat, catI, catL, catR])) (fun Γ D B X hr hin => ?_)
  have X : Cx Γ RX8 cX8_init 1 D B { frames := 1, cells := 2, slots := 2101, locals := 12 } := X
  unfold f_Tally_init at hf
  refine r_aload_n (pc := 0) X dX8_init_0 0 rfl ?_
  refine b_recv (w := false) (B := B) (D := D) rfl hf (fun a hx hrc hf => ?_)
  refine r_objInit (pc := 1) X hx w_234 w_62 w_objcode (Nat.le_of_ble_eq_true rfl) (Nat.le_of_ble_eq_true rfl) dX8_init_1 ?_
  refine r_aload_n (pc := 4) X dX8_init_4 0 rfl ?_
  refine r_bipush (v := 100) (pc := 5) X dX8_init_5 (by decide) ?_
  refine r_newa (t := 1) (ty := .int) (atype := .int) (pc := 7) X w_110 rfl rfl (by decide) (by decide) (m := 100) (by decide) (by decide) (by decide) (by decide) dX8_init_7 ?_
  refine lts hf (fun s1 hf => ?_)
  refine b_dputR (j := 0) (pc := 9) X rfl inT8 tyX8 tyX8_ok nmX8 (by decide) w_235 (Or.inr ⟨rfl, hin, rfl⟩) (tyX8_ok 0 (by decide)) (Or.inr ⟨_, rfl⟩) rfl dX8_init_9 hf (fun o2 s3 hf => ?_)
  refine r_aload_n (pc := 12) X dX8_init_12 0 rfl ?_
  refine r_iconst (v := 0) (pc := 13) X dX8_init_13 (by decide) ?_
  refine b_dputI (j := 1) (pc := 14) X rfl inT8 tyX8 tyX8_ok nmX8 (by decide) w_236 (Or.inl rfl) (tyX8_ok 1 (by decide)) rfl rfl rfl dX8_init_14 hf (fun o4 s5 hf => ?_)
  refine r_aload_n (pc := 17) X dX8_init_17 0 rfl ?_
  refine r_lconst (v := 0) (pc := 18) X dX8_init_18 (by decide) ?_
  refine b_dputL (j := 2) (pc := 19) X rfl inT8 tyX8 tyX8_ok nmX8 (by decide) w_237 (Or.inl rfl) (tyX8_ok 2 (by decide)) rfl rfl rfl dX8_init_19 hf (fun o6 s7 hf => ?_)
  refine r_aload_n (pc := 22) X dX8_init_22 0 rfl ?_
  refine r_iconst (v := 0) (pc := 23) X dX8_init_23 (by decide) ?_
  refine b_dputI (j := 3) (pc := 24) X rfl inT8 tyX8 tyX8_ok nmX8 (by decide) w_238 (Or.inl rfl) (tyX8_ok 3 (by decide)) rfl rfl rfl dX8_init_24 hf (fun o8 s9 hf => ?_)
  refine r_aload_n (pc := 27) X dX8_init_27 0 rfl ?_
  refine r_iconst (v := 0) (pc := 28) X dX8_init_28 (by decide) ?_
  refine b_dputI (j := 4) (pc := 29) X rfl inT8 tyX8 tyX8_ok nmX8 (by decide) w_239 (Or.inl rfl) (tyX8_ok 4 (by decide)) rfl rfl rfl dX8_init_29 hf (fun o10 s11 hf => ?_)
  refine r_aload_n (pc := 32) X dX8_init_32 0 rfl ?_
  refine r_iconst (v := 0) (pc := 33) X dX8_init_33 (by decide) ?_
  refine b_dputI (j := 5) (pc := 34) X rfl inT8 tyX8 tyX8_ok nmX8 (by decide) w_240 (Or.inl rfl) (tyX8_ok 5 (by decide)) rfl rfl rfl dX8_init_34 hf (fun o12 s13 hf => ?_)
  refine r_aload_n (pc := 37) X dX8_init_37 0 rfl ?_
  refine r_sipush (v := 2001) (pc := 38) X dX8_init_38 (by decide) ?_
  refine r_newa (t := 1) (ty := .int) (atype := .int) (pc := 41) X w_110 rfl rfl (by decide) (by decide) (m := 2001) (by decide) (by decide) (by decide) (by decide) dX8_init_41 ?_
  refine lts hf (fun s14 hf => ?_)
  refine b_dputR (j := 6) (pc := 43) X rfl inT8 tyX8 tyX8_ok nmX8 (by decide) w_241 (Or.inr ⟨rfl, hin, rfl⟩) (tyX8_ok 6 (by decide)) (Or.inr ⟨_, rfl⟩) rfl dX8_init_43 hf (fun o15 s16 hf => ?_)
  exact e_vret (pc := 46) X hr hf (by decide) (by decide) dX8_init_46
/-! f_Walker_init -/
theorem dX9_init_0 : decode cX9_init 0 = .ok (.aload_n 0, 1) := by decide +kernel
theorem dX9_init_1 : decode cX9_init 1 = .ok (.invokespecial 3, 3) := by decide +kernel
theorem dX9_init_4 : decode cX9_init 4 = .ok (.aload_n 0, 1) := by decide +kernel
theorem dX9_init_5 : decode cX9_init 5 = .ok (.new 9, 3) := by decide +kernel
theorem dX9_init_8 : decode cX9_init 8 = .ok (.dup, 1) := by decide +kernel
theorem dX9_init_9 : decode cX9_init 9 = .ok (.invokespecial 11, 3) := by decide +kernel
theorem dX9_init_12 : decode cX9_init 12 = .ok (.putfield 12, 3) := by decide +kernel
theorem dX9_init_15 : decode cX9_init 15 = .ok (.return_, 1) := by decide +kernel
def f_Walker_init (F : Nat) (s : St) (p0 : Option Nat) : Option (St) :=
  (dgo s p0 9).bind fun _ => (lt (sN s (.inl (8, fun _ => 0, fun _ => none, fun _ => 0))) fun s1 => ((dgo s1 (some (sz s)) 8).bind fun _ => ((f_Tally_init F s1 (some (sz s))).bind fun x2 => ((dgo x2 p0 9).bind fun o3 => (lt (sF x2 o3 9 (o3.2.1, ups o3.2.2.1 0 (some (sz s)), o3.2.2.2)) fun s4 => (some s4))))))
set_option maxHeartbeats 1000000 in
theorem c_f_Walker_init {F : Nat} {s : St} {p0 : Option Nat} {s' : St} (hf : f_Walker_init F s p0 = some s') : CC false yX9_init (Cond.code yX9_init cX9_init 1 none) (2) (32) (fun B => [rfB B p0]) s (fun B => none) s' 3 2108 := by
  refine CC.of (fun B => [(0, rfB B p0)]) (by decide +kernel) (fun _ => (by simp [lv_args, rfB_cat, catI, catL, catR])) (fun _ => (by simp [lg_sl, rfB_cat, catI, catL, catR])) (fun Γ D B X hr hin => ?_)
  have X : Cx Γ RX9 cX9_init 1 D B { frames := 2, cells := 3, slots := 2108, locals := 32 } := X
  unfold f_Walker_init at hf
  refine r_aload_n (pc := 0) X dX9_init_0 0 rfl ?_
  refine b_recv (w := false) (B := B) (D := D) rfl hf (fun a hx hrc hf => ?_)
  refine r_objInit (pc := 1) X hx w_228 w_62 w_objcode (Nat.le_of_ble_eq_true rfl) (Nat.le_of_ble_eq_true rfl) dX9_init_1 ?_
  refine r_aload_n (pc := 4) X dX9_init_4 0 rfl ?_
  refine r_new (pc := 5) X rfl inT8 tyX8 tyX8_ok w_229 w_230 w_44 rfl hdv8 (by decide) (by decide) dX9_init_5 ?_
  refine lts hf (fun s1 hf => ?_)
  refine r_dup (pc := 8) X dX9_init_8 rfl ?_
  refine b_recv (w := false) (B := B) (D := D) rfl hf (fun a hx hrc hf => ?_)
  refine bnd hf (fun x2 h2 hf => ?_)
  refine r_callIN (mc := 2) (ms := 2101) (As := []) (st := [rfB B (some (sz s)), rfB B p0]) (pc := 9) X (c_f_Tally_init h2) (by rw [hx]; rfl) wn_231 w_232 w_44 w_233 rfl hdS_X8_init (by decide) (by decide) (by decide) (by simp [rfB_cat, catI, catL, catR]) dX9_init_9 (by rw [hx]; rfl) ?_
  refine b_dputR (j := 0) (pc := 12) X rfl inT9 tyX9 tyX9_ok nmX9 (by decide) w_257 (Or.inr ⟨rfl, hin, rfl⟩) (tyX9_ok 0 (by decide)) (Or.inl ⟨_, rfl⟩) rfl dX9_init_12 hf (fun o3 s4 hf => ?_)
  exact e_vret (pc := 15) X hr hf (by decide) (by decide) dX9_init_15
/-! f_Runner_init -/
theorem dX7_init_0 : decode cX7_init 0 = .ok (.aload_n 0, 1) := by decide +kernel
theorem dX7_init_1 : decode cX7_init 1 = .ok (.invokespecial 3, 3) := by decide +kernel
theorem dX7_init_4 : decode cX7_init 4 = .ok (.aload_n 0, 1) := by decide +kernel
theorem dX7_init_5 : decode cX7_init 5 = .ok (.new 9, 3) := by decide +kernel
theorem dX7_init_8 : decode cX7_init 8 = .ok (.dup, 1) := by decide +kernel
theorem dX7_init_9 : decode cX7_init 9 = .ok (.invokespecial 11, 3) := by decide +kernel
theorem dX7_init_12 : decode cX7_init 12 = .ok (.putfield 12, 3) := by decide +kernel
theorem dX7_init_15 : decode cX7_init 15 = .ok (.aload_n 0, 1) := by decide +kernel
theorem dX7_init_16 : decode cX7_init 16 = .ok (.bipush 40, 2) := by decide +kernel
theorem dX7_init_18 : decode cX7_init 18 = .ok (.newarray .long, 2) := by decide +kernel
theorem dX7_init_20 : decode cX7_init 20 = .ok (.putfield 18, 3) := by decide +kernel
theorem dX7_init_23 : decode cX7_init 23 = .ok (.aload_n 0, 1) := by decide +kernel
theorem dX7_init_24 : decode cX7_init 24 = .ok (.iconst 0, 1) := by decide +kernel
theorem dX7_init_25 : decode cX7_init 25 = .ok (.putfield 22, 3) := by decide +kernel
theorem dX7_init_28 : decode cX7_init 28 = .ok (.return_, 1) := by decide +kernel
def f_Runner_init (F : Nat) (s : St) (p0 : Option Nat) : Option (St) :=
  (dgo s p0 7).bind fun _ => (lt (sN s (.inl (8, fun _ => 0, fun _ => none, fun _ => 0))) fun s1 => ((dgo s1 (some (sz s)) 8).bind fun _ => ((f_Tally_init F s1 (some (sz s))).bind fun x2 => ((dgo x2 p0 7).bind fun o3 => (lt (sF x2 o3 7 (o3.2.1, ups o3.2.2.1 0 (some (sz s)), o3.2.2.2)) fun s4 => (lt (sN s4 (.inr (.inr (.inl (40, fun _ => 0))))) fun s5 => ((dgo s5 p0 7).bind fun o6 => (lt (sF s5 o6 7 (o6.2.1, ups o6.2.2.1 1 (some (sz s4)), o6.2.2.2)) fun s7 => ((dgo s7 p0 7).bind fun o8 => (lt (sF s7 o8 7 (ups o8.2.1 2 0, o8.2.2)) fun s9 => (some s9)))))))))))
set_option maxHeartbeats 1000000 in
theorem c_f_Runner_init {F : Nat} {s : St} {p0 : Option Nat} {s' : St} (hf : f_Runner_init F s p0 = some s') : CC false yX7_init (Cond.code yX7_init cX7_init 1 none) (2) (32) (fun B => [rfB B p0]) s (fun B => none) s' 4 2148 := by
  refine CC.of (fun B => [(0, rfB B p0)]) (by decide +kernel) (fun _ => (by simp [lv_args, rfB_cat, catI, catL, catR])) (fun _ => (by simp [lg_sl, rfB_cat, catI, catL, catR])) (fun Γ D B X hr hin => ?_)
  have X : Cx Γ RX7 cX7_init 1 D B { frames := 2, cells := 4, slots := 2148, locals := 32 } := X
  unfold f_Runner_init at hf
  refine r_aload_n (pc := 0) X dX7_init_0 0 rfl ?_
  refine b_recv (w := false) (B := B) (D := D) rfl hf (fun a hx hrc hf => ?_)
  refine r_objInit (pc := 1) X hx w_266 w_62 w_objcode (Nat.le_of_ble_eq_true rfl) (Nat.le_of_ble_eq_true rfl) dX7_init_1 ?_
  refine r_aload_n (pc := 4) X dX7_init_4 0 rfl ?_
  refine r_new (pc := 5) X rfl inT8 tyX8 tyX8_ok w_267 w_230 w_44 rfl hdv8 (by decide) (by decide) dX7_init_5 ?_
  refine lts hf (fun s1 hf => ?_)
  refine r_dup (pc := 8) X dX7_init_8 rfl ?_
  refine b_recv (w := false) (B := B) (D := D) rfl hf (fun a hx hrc hf => ?_)
  refine bnd hf (fun x2 h2 hf => ?_)
  refine r_callIN (mc := 2) (ms := 2101) (As := []) (st := [rfB B (some (sz s)), rfB B p0]) (pc := 9) X (c_f_Tally_init h2) (by rw [hx]; rfl) wn_268 w_232 w_44 w_233 rfl hdS_X8_init (by decide) (by decide) (by decide) (by simp [rfB_cat, catI, catL, catR]) dX7_init_9 (by rw [hx]; rfl) ?_
  refine b_dputR (j := 0) (pc := 12) X rfl inT7 tyX7 tyX7_ok nmX7 (by decide) w_269 (Or.inr ⟨rfl, hin, rfl⟩) (tyX7_ok 0 (by decide)) (Or.inl ⟨_, rfl⟩) rfl dX7_init_12 hf (fun o3 s4 hf => ?_)
  refine r_aload_n (pc := 15) X dX7_init_15 0 rfl ?_
  refine r_bipush (v := 40) (pc := 16) X dX7_init_16 (by decide) ?_
  refine r_newaL (pc := 18) X w_279 (by decide) (m := 40) (by decide) (by decide) (by decide) (by decide) dX7_init_18 ?_
  refine lts hf (fun s5 hf => ?_)
  refine b_dputR (j := 1) (pc := 20) X rfl inT7 tyX7 tyX7_ok nmX7 (by decide) w_270 (Or.inr ⟨rfl, hin, rfl⟩) (tyX7_ok 1 (by decide)) (Or.inr ⟨_, rfl⟩) rfl dX7_init_20 hf (fun o6 s7 hf => ?_)
  refine r_aload_n (pc := 23) X dX7_init_23 0 rfl ?_
  refine r_iconst (v := 0) (pc := 24) X dX7_init_24 (by decide) ?_
  refine b_dputI (j := 2) (pc := 25) X rfl inT7 tyX7 tyX7_ok nmX7 (by decide) w_271 (Or.inl rfl) (tyX7_ok 2 (by decide)) rfl rfl rfl dX7_init_25 hf (fun o8 s9 hf => ?_)
  exact e_vret (pc := 28) X hr hf (by decide) (by decide) dX7_init_28
/-! f_P_init -/
theorem dX10_init_0 : decode cX10_init 0 = .ok (.aload_n 0, 1) := by decide +kernel
theorem dX10_init_1 : decode cX10_init 1 = .ok (.invokespecial 3, 3) := by decide +kernel
theorem dX10_init_4 : decode cX10_init 4 = .ok (.aload_n 0, 1) := by decide +kernel
theorem dX10_init_5 : decode cX10_init 5 = .ok (.bipush 40, 2) := by decide +kernel
theorem dX10_init_7 : decode cX10_init 7 = .ok (.newarray .char, 2) := by decide +kernel
theorem dX10_init_9 : decode cX10_init 9 = .ok (.putfield 9, 3) := by decide +kernel
theorem dX10_init_12 : decode cX10_init 12 = .ok (.aload_n 0, 1) := by decide +kernel
theorem dX10_init_13 : decode cX10_init 13 = .ok (.iconst 0, 1) := by decide +kernel
theorem dX10_init_14 : decode cX10_init 14 = .ok (.putfield 13, 3) := by decide +kernel
theorem dX10_init_17 : decode cX10_init 17 = .ok (.aload_n 0, 1) := by decide +kernel
theorem dX10_init_18 : decode cX10_init 18 = .ok (.iconst 0, 1) := by decide +kernel
theorem dX10_init_19 : decode cX10_init 19 = .ok (.putfield 17, 3) := by decide +kernel
theorem dX10_init_22 : decode cX10_init 22 = .ok (.aload_n 0, 1) := by decide +kernel
theorem dX10_init_23 : decode cX10_init 23 = .ok (.iconst 4, 1) := by decide +kernel
theorem dX10_init_24 : decode cX10_init 24 = .ok (.anewarray 20, 3) := by decide +kernel
theorem dX10_init_27 : decode cX10_init 27 = .ok (.putfield 22, 3) := by decide +kernel
theorem dX10_init_30 : decode cX10_init 30 = .ok (.aload_n 0, 1) := by decide +kernel
theorem dX10_init_31 : decode cX10_init 31 = .ok (.iconst 0, 1) := by decide +kernel
theorem dX10_init_32 : decode cX10_init 32 = .ok (.putfield 26, 3) := by decide +kernel
theorem dX10_init_35 : decode cX10_init 35 = .ok (.aload_n 0, 1) := by decide +kernel
theorem dX10_init_36 : decode cX10_init 36 = .ok (.new 29, 3) := by decide +kernel
theorem dX10_init_39 : decode cX10_init 39 = .ok (.dup, 1) := by decide +kernel
theorem dX10_init_40 : decode cX10_init 40 = .ok (.invokespecial 31, 3) := by decide +kernel
theorem dX10_init_43 : decode cX10_init 43 = .ok (.putfield 32, 3) := by decide +kernel
theorem dX10_init_46 : decode cX10_init 46 = .ok (.aload_n 0, 1) := by decide +kernel
theorem dX10_init_47 : decode cX10_init 47 = .ok (.new 36, 3) := by decide +kernel
theorem dX10_init_50 : decode cX10_init 50 = .ok (.dup, 1) := by decide +kernel
theorem dX10_init_51 : decode cX10_init 51 = .ok (.invokespecial 38, 3) := by decide +kernel
theorem dX10_init_54 : decode cX10_init 54 = .ok (.putfield 39, 3) := by decide +kernel
theorem dX10_init_57 : decode cX10_init 57 = .ok (.aload_n 0, 1) := by decide +kernel
theorem dX10_init_58 : decode cX10_init 58 = .ok (.new 43, 3) := by decide +kernel
theorem dX10_init_61 : decode cX10_init 61 = .ok (.dup, 1) := by decide +kernel
theorem dX10_init_62 : decode cX10_init 62 = .ok (.invokespecial 45, 3) := by decide +kernel
theorem dX10_init_65 : decode cX10_init 65 = .ok (.putfield 46, 3) := by decide +kernel
theorem dX10_init_68 : decode cX10_init 68 = .ok (.aload_n 0, 1) := by decide +kernel
theorem dX10_init_69 : decode cX10_init 69 = .ok (.new 50, 3) := by decide +kernel
theorem dX10_init_72 : decode cX10_init 72 = .ok (.dup, 1) := by decide +kernel
theorem dX10_init_73 : decode cX10_init 73 = .ok (.invokespecial 52, 3) := by decide +kernel
theorem dX10_init_76 : decode cX10_init 76 = .ok (.putfield 53, 3) := by decide +kernel
theorem dX10_init_79 : decode cX10_init 79 = .ok (.aload_n 0, 1) := by decide +kernel
theorem dX10_init_80 : decode cX10_init 80 = .ok (.new 57, 3) := by decide +kernel
theorem dX10_init_83 : decode cX10_init 83 = .ok (.dup, 1) := by decide +kernel
theorem dX10_init_84 : decode cX10_init 84 = .ok (.invokespecial 59, 3) := by decide +kernel
theorem dX10_init_87 : decode cX10_init 87 = .ok (.putfield 60, 3) := by decide +kernel
theorem dX10_init_90 : decode cX10_init 90 = .ok (.aload_n 0, 1) := by decide +kernel
theorem dX10_init_91 : decode cX10_init 91 = .ok (.new 64, 3) := by decide +kernel
theorem dX10_init_94 : decode cX10_init 94 = .ok (.dup, 1) := by decide +kernel
theorem dX10_init_95 : decode cX10_init 95 = .ok (.invokespecial 66, 3) := by decide +kernel
theorem dX10_init_98 : decode cX10_init 98 = .ok (.putfield 67, 3) := by decide +kernel
theorem dX10_init_101 : decode cX10_init 101 = .ok (.aload_n 0, 1) := by decide +kernel
theorem dX10_init_102 : decode cX10_init 102 = .ok (.new 71, 3) := by decide +kernel
theorem dX10_init_105 : decode cX10_init 105 = .ok (.dup, 1) := by decide +kernel
theorem dX10_init_106 : decode cX10_init 106 = .ok (.invokespecial 73, 3) := by decide +kernel
theorem dX10_init_109 : decode cX10_init 109 = .ok (.putfield 74, 3) := by decide +kernel
theorem dX10_init_112 : decode cX10_init 112 = .ok (.return_, 1) := by decide +kernel
def f_P_init (F : Nat) (s : St) (p0 : Option Nat) : Option (St) :=
  (dgo s p0 10).bind fun _ => (lt (sN s (.inr (.inl (0, 40, fun _ => 0)))) fun s1 => ((dgo s1 p0 10).bind fun o2 => (lt (sF s1 o2 10 (o2.2.1, ups o2.2.2.1 0 (some (sz s)), o2.2.2.2)) fun s3 => ((dgo s3 p0 10).bind fun o4 => (lt (sF s3 o4 10 (ups o4.2.1 1 0, o4.2.2)) fun s5 => ((dgo s5 p0 10).bind fun o6 => (lt (sF s5 o6 10 (ups o6.2.1 2 0, o6.2.2)) fun s7 => (lt (sN s7 (.inr (.inr (.inr (4, fun _ => none))))) fun s8 => ((dgo s8 p0 10).bind fun o9 => (lt (sF s8 o9 10 (o9.2.1, ups o9.2.2.1 3 (some (sz s7)), o9.2.2.2)) fun s10 => ((dgo s10 p0 10).bind fun o11 => (lt (sF s10 o11 10 (ups o11.2.1 4 0, o11.2.2)) fun s12 => (lt (sN s12 (.inl (2, fun _ => 0, fun _ => none, fun _ => 0))) fun s13 => ((dgo s13 (some (sz s12)) 2).bind fun _ => ((f_Logs_init F s13 (some (sz s12))).bind fun x14 => ((dgo x14 p0 10).bind fun o15 => (lt (sF x14 o15 10 (o15.2.1, ups o15.2.2.1 5 (some (sz s12)), o15.2.2.2)) fun s16 => (lt (sN s16 (.inl (5, fun _ => 0, fun _ => none, fun _ => 0))) fun s17 => ((dgo s17 (some (sz s16)) 5).bind fun _ => ((f_Rota_init F s17 (some (sz s16))).bind fun x18 => ((dgo x18 p0 10).bind fun o19 => (lt (sF x18 o19 10 (o19.2.1, ups o19.2.2.1 6 (some (sz s16)), o19.2.2.2)) fun s20 => (lt (sN s20 (.inl (0, fun _ => 0, fun _ => none, fun _ => 0))) fun s21 => ((dgo s21 (some (sz s20)) 0).bind fun _ => ((f_Alarms_init F s21 (some (sz s20))).bind fun x22 => ((dgo x22 p0 10).bind fun o23 => (lt (sF x22 o23 10 (o23.2.1, ups o23.2.2.1 7 (some (sz s20)), o23.2.2.2)) fun s24 => (lt (sN s24 (.inl (4, fun _ => 0, fun _ => none, fun _ => 0))) fun s25 => ((dgo s25 (some (sz s24)) 4).bind fun _ => ((f_Reader_init F s25 (some (sz s24))).bind fun x26 => ((dgo x26 p0 10).bind fun o27 => (lt (sF x26 o27 10 (o27.2.1, ups o27.2.2.1 8 (some (sz s24)), o27.2.2.2)) fun s28 => (lt (sN s28 (.inl (1, fun _ => 0, fun _ => none, fun _ => 0))) fun s29 => ((dgo s29 (some (sz s28)) 1).bind fun _ => ((f_Coder_init F s29 (some (sz s28))).bind fun x30 => ((dgo x30 p0 10).bind fun o31 => (lt (sF x30 o31 10 (o31.2.1, ups o31.2.2.1 9 (some (sz s28)), o31.2.2.2)) fun s32 => (lt (sN s32 (.inl (9, fun _ => 0, fun _ => none, fun _ => 0))) fun s33 => ((dgo s33 (some (sz s32)) 9).bind fun _ => ((f_Walker_init F s33 (some (sz s32))).bind fun x34 => ((dgo x34 p0 10).bind fun o35 => (lt (sF x34 o35 10 (o35.2.1, ups o35.2.2.1 10 (some (sz s32)), o35.2.2.2)) fun s36 => (lt (sN s36 (.inl (7, fun _ => 0, fun _ => none, fun _ => 0))) fun s37 => ((dgo s37 (some (sz s36)) 7).bind fun _ => ((f_Runner_init F s37 (some (sz s36))).bind fun x38 => ((dgo x38 p0 10).bind fun o39 => (lt (sF x38 o39 10 (o39.2.1, ups o39.2.2.1 11 (some (sz s36)), o39.2.2.2)) fun s40 => (some s40))))))))))))))))))))))))))))))))))))))))))))))))
set_option maxHeartbeats 1000000 in
theorem c_f_P_init {F : Nat} {s : St} {p0 : Option Nat} {s' : St} (hf : f_P_init F s p0 = some s') : CO false yX10_init (Cond.code yX10_init cX10_init 1 none) (3) (52) (fun B => [rfB B p0]) s (fun B => none) s' 38 34577 := by
  refine CO.of (fun B => [(0, rfB B p0)]) (by decide +kernel) (fun _ => (by simp [lv_args, rfB_cat, catI, catL, catR])) (fun _ => (by simp [lg_sl, rfB_cat, catI, catL, catR])) (fun Γ D B X hAO hr hin => ?_)
  have X : Cx Γ RX10 cX10_init 1 D B { frames := 3, cells := 38, slots := 34577, locals := 52 } := X
  unfold f_P_init at hf
  refine r_aload_n (pc := 0) X dX10_init_0 0 rfl ?_
  refine b_recv (w := false) (B := B) (D := D) rfl hf (fun a hx hrc hf => ?_)
  refine r_objInit (pc := 1) X hx w_61 w_62 w_objcode (Nat.le_of_ble_eq_true rfl) (Nat.le_of_ble_eq_true rfl) dX10_init_1 ?_
  refine r_aload_n (pc := 4) X dX10_init_4 0 rfl ?_
  refine r_bipush (v := 40) (pc := 5) X dX10_init_5 (by decide) ?_
  refine r_newa (t := 0) (ty := .char) (atype := .char) (pc := 7) X w_109 rfl rfl (by decide) (by decide) (m := 40) (by decide) (by decide) (by decide) (by decide) dX10_init_7 ?_
  refine lts hf (fun s1 hf => ?_)
  refine b_dputR (j := 0) (pc := 9) X rfl inT10 tyX10 tyX10_ok nmX10 (by decide) w_280 (Or.inr ⟨rfl, hin, rfl⟩) (tyX10_ok 0 (by decide)) (Or.inr ⟨_, rfl⟩) rfl dX10_init_9 hf (fun o2 s3 hf => ?_)
  refine r_aload_n (pc := 12) X dX10_init_12 0 rfl ?_
  refine r_iconst (v := 0) (pc := 13) X dX10_init_13 (by decide) ?_
  refine b_dputI (j := 1) (pc := 14) X rfl inT10 tyX10 tyX10_ok nmX10 (by decide) w_281 (Or.inl rfl) (tyX10_ok 1 (by decide)) rfl rfl rfl dX10_init_14 hf (fun o4 s5 hf => ?_)
  refine r_aload_n (pc := 17) X dX10_init_17 0 rfl ?_
  refine r_iconst (v := 0) (pc := 18) X dX10_init_18 (by decide) ?_
  refine b_dputI (j := 2) (pc := 19) X rfl inT10 tyX10 tyX10_ok nmX10 (by decide) w_282 (Or.inl rfl) (tyX10_ok 2 (by decide)) rfl rfl rfl dX10_init_19 hf (fun o6 s7 hf => ?_)
  refine r_aload_n (pc := 22) X dX10_init_22 0 rfl ?_
  refine r_iconst (v := 4) (pc := 23) X dX10_init_23 (by decide) ?_
  refine r_newq (pc := 24) X hAO w_64 (by decide) (m := 4) (by decide) (by decide) (by decide) (by decide) dX10_init_24 ?_
  refine lts hf (fun s8 hf => ?_)
  refine b_dputR (j := 3) (pc := 27) X rfl inT10 tyX10 tyX10_ok nmX10 (by decide) w_283 (Or.inr ⟨rfl, hin, rfl⟩) (tyX10_ok 3 (by decide)) (Or.inr ⟨_, rfl⟩) rfl dX10_init_27 hf (fun o9 s10 hf => ?_)
  refine r_aload_n (pc := 30) X dX10_init_30 0 rfl ?_
  refine r_iconst (v := 0) (pc := 31) X dX10_init_31 (by decide) ?_
  refine b_dputI (j := 4) (pc := 32) X rfl inT10 tyX10 tyX10_ok nmX10 (by decide) w_284 (Or.inl rfl) (tyX10_ok 4 (by decide)) rfl rfl rfl dX10_init_32 hf (fun o11 s12 hf => ?_)
  refine r_aload_n (pc := 35) X dX10_init_35 0 rfl ?_
  refine r_new (pc := 36) X rfl inT2 tyX2 tyX2_ok w_66 w_67 w_37 rfl hdv2 (by decide) (by decide) dX10_init_36 ?_
  refine lts hf (fun s13 hf => ?_)
  refine r_dup (pc := 39) X dX10_init_39 rfl ?_
  refine b_recv (w := false) (B := B) (D := D) rfl hf (fun a hx hrc hf => ?_)
  refine bnd hf (fun x14 h14 hf => ?_)
  refine r_callIN (mc := 8) (ms := 1702) (As := []) (st := [rfB B (some (sz s12)), rfB B p0]) (pc := 40) X (c_f_Logs_init h14) (by rw [hx]; rfl) wn_68 w_69 w_37 w_70 rfl hdS_X2_init (by decide) (by decide) (by decide) (by simp [rfB_cat, catI, catL, catR]) dX10_init_40 (by rw [hx]; rfl) ?_
  refine b_dputR (j := 5) (pc := 43) X rfl inT10 tyX10 tyX10_ok nmX10 (by decide) w_285 (Or.inr ⟨rfl, hin, rfl⟩) (tyX10_ok 5 (by decide)) (Or.inl ⟨_, rfl⟩) rfl dX10_init_43 hf (fun o15 s16 hf => ?_)
  refine r_aload_n (pc := 46) X dX10_init_46 0 rfl ?_
  refine r_new (pc := 47) X rfl inT5 tyX5 tyX5_ok w_111 w_112 w_38 rfl hdv5 (by decide) (by decide) dX10_init_47 ?_
  refine lts hf (fun s17 hf => ?_)
  refine r_dup (pc := 50) X dX10_init_50 rfl ?_
  refine b_recv (w := false) (B := B) (D := D) rfl hf (fun a hx hrc hf => ?_)
  refine bnd hf (fun x18 h18 hf => ?_)
  refine r_callI (mc := 5) (ms := 8378) (As := []) (st := [rfB B (some (sz s16)), rfB B p0]) (pc := 51) X (c_f_Rota_init h18) (by rw [hx]; rfl) w_113 w_114 w_38 w_115 rfl hdS_X5_init (by decide) (by decide) (by decide) (by simp [rfB_cat, catI, catL, catR]) dX10_init_51 (by rw [hx]; rfl) ?_
  refine b_dputR (j := 6) (pc := 54) X rfl inT10 tyX10 tyX10_ok nmX10 (by decide) w_286 (Or.inr ⟨rfl, hin, rfl⟩) (tyX10_ok 6 (by decide)) (Or.inl ⟨_, rfl⟩) rfl dX10_init_54 hf (fun o19 s20 hf => ?_)
  refine r_aload_n (pc := 57) X dX10_init_57 0 rfl ?_
  refine r_new (pc := 58) X rfl inT0 tyX0 tyX0_ok w_144 w_145 w_40 rfl hdv0 (by decide) (by decide) dX10_init_58 ?_
  refine lts hf (fun s21 hf => ?_)
  refine r_dup (pc := 61) X dX10_init_61 rfl ?_
  refine b_recv (w := false) (B := B) (D := D) rfl hf (fun a hx hrc hf => ?_)
  refine bnd hf (fun x22 h22 hf => ?_)
  refine r_callIN (mc := 5) (ms := 20000) (As := []) (st := [rfB B (some (sz s20)), rfB B p0]) (pc := 62) X (c_f_Alarms_init h22) (by rw [hx]; rfl) wn_146 w_147 w_40 w_148 rfl hdS_X0_init (by decide) (by decide) (by decide) (by simp [rfB_cat, catI, catL, catR]) dX10_init_62 (by rw [hx]; rfl) ?_
  refine b_dputR (j := 7) (pc := 65) X rfl inT10 tyX10 tyX10_ok nmX10 (by decide) w_287 (Or.inr ⟨rfl, hin, rfl⟩) (tyX10_ok 7 (by decide)) (Or.inl ⟨_, rfl⟩) rfl dX10_init_65 hf (fun o23 s24 hf => ?_)
  refine r_aload_n (pc := 68) X dX10_init_68 0 rfl ?_
  refine r_new (pc := 69) X rfl inT4 tyX4 tyX4_ok w_180 w_181 w_41 rfl hdv4 (by decide) (by decide) dX10_init_69 ?_
  refine lts hf (fun s25 hf => ?_)
  refine r_dup (pc := 72) X dX10_init_72 rfl ?_
  refine b_recv (w := false) (B := B) (D := D) rfl hf (fun a hx hrc hf => ?_)
  refine bnd hf (fun x26 h26 hf => ?_)
  refine r_callIN (mc := 1) (ms := 0) (As := []) (st := [rfB B (some (sz s24)), rfB B p0]) (pc := 73) X (c_f_Reader_init h26) (by rw [hx]; rfl) wn_182 w_183 w_41 w_184 rfl hdS_X4_init (by decide) (by decide) (by decide) (by simp [rfB_cat, catI, catL, catR]) dX10_init_73 (by rw [hx]; rfl) ?_
  refine b_dputR (j := 8) (pc := 76) X rfl inT10 tyX10 tyX10_ok nmX10 (by decide) w_288 (Or.inr ⟨rfl, hin, rfl⟩) (tyX10_ok 8 (by decide)) (Or.inl ⟨_, rfl⟩) rfl dX10_init_76 hf (fun o27 s28 hf => ?_)
  refine r_aload_n (pc := 79) X dX10_init_79 0 rfl ?_
  refine r_new (pc := 80) X rfl inT1 tyX1 tyX1_ok w_196 w_197 w_42 rfl hdv1 (by decide) (by decide) dX10_init_80 ?_
  refine lts hf (fun s29 hf => ?_)
  refine r_dup (pc := 83) X dX10_init_83 rfl ?_
  refine b_recv (w := false) (B := B) (D := D) rfl hf (fun a hx hrc hf => ?_)
  refine bnd hf (fun x30 h30 hf => ?_)
  refine r_callIN (mc := 3) (ms := 160) (As := []) (st := [rfB B (some (sz s28)), rfB B p0]) (pc := 84) X (c_f_Coder_init h30) (by rw [hx]; rfl) wn_198 w_199 w_42 w_200 rfl hdS_X1_init (by decide) (by decide) (by decide) (by simp [rfB_cat, catI, catL, catR]) dX10_init_84 (by rw [hx]; rfl) ?_
  refine b_dputR (j := 9) (pc := 87) X rfl inT10 tyX10 tyX10_ok nmX10 (by decide) w_289 (Or.inr ⟨rfl, hin, rfl⟩) (tyX10_ok 9 (by decide)) (Or.inl ⟨_, rfl⟩) rfl dX10_init_87 hf (fun o31 s32 hf => ?_)
  refine r_aload_n (pc := 90) X dX10_init_90 0 rfl ?_
  refine r_new (pc := 91) X rfl inT9 tyX9 tyX9_ok w_223 w_224 w_43 rfl hdv9 (by decide) (by decide) dX10_init_91 ?_
  refine lts hf (fun s33 hf => ?_)
  refine r_dup (pc := 94) X dX10_init_94 rfl ?_
  refine b_recv (w := false) (B := B) (D := D) rfl hf (fun a hx hrc hf => ?_)
  refine bnd hf (fun x34 h34 hf => ?_)
  refine r_callIN (mc := 3) (ms := 2108) (As := []) (st := [rfB B (some (sz s32)), rfB B p0]) (pc := 95) X (c_f_Walker_init h34) (by rw [hx]; rfl) wn_225 w_226 w_43 w_227 rfl hdS_X9_init (by decide) (by decide) (by decide) (by simp [rfB_cat, catI, catL, catR]) dX10_init_95 (by rw [hx]; rfl) ?_
  refine b_dputR (j := 10) (pc := 98) X rfl inT10 tyX10 tyX10_ok nmX10 (by decide) w_290 (Or.inr ⟨rfl, hin, rfl⟩) (tyX10_ok 10 (by decide)) (Or.inl ⟨_, rfl⟩) rfl dX10_init_98 hf (fun o35 s36 hf => ?_)
  refine r_aload_n (pc := 101) X dX10_init_101 0 rfl ?_
  refine r_new (pc := 102) X rfl inT7 tyX7 tyX7_ok w_261 w_262 w_45 rfl hdv7 (by decide) (by decide) dX10_init_102 ?_
  refine lts hf (fun s37 hf => ?_)
  refine r_dup (pc := 105) X dX10_init_105 rfl ?_
  refine b_recv (w := false) (B := B) (D := D) rfl hf (fun a hx hrc hf => ?_)
  refine bnd hf (fun x38 h38 hf => ?_)
  refine r_callIN (mc := 4) (ms := 2148) (As := []) (st := [rfB B (some (sz s36)), rfB B p0]) (pc := 106) X (c_f_Runner_init h38) (by rw [hx]; rfl) wn_263 w_264 w_45 w_265 rfl hdS_X7_init (by decide) (by decide) (by decide) (by simp [rfB_cat, catI, catL, catR]) dX10_init_106 (by rw [hx]; rfl) ?_
  refine b_dputR (j := 11) (pc := 109) X rfl inT10 tyX10 tyX10_ok nmX10 (by decide) w_291 (Or.inr ⟨rfl, hin, rfl⟩) (tyX10_ok 11 (by decide)) (Or.inl ⟨_, rfl⟩) rfl dX10_init_109 hf (fun o39 s40 hf => ?_)
  exact e_vret (pc := 112) X hr hf (by decide) (by decide) dX10_init_112
