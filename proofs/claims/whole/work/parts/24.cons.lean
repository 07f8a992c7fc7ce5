/-! constructors: over a picture of dynamic cells alone -/
theorem hdvg {ci N : Nat} {ty0 : Nat → FieldType} (hl : (fty ci).length = N) (h : (List.range N).all (fun j => match (fty ci)[j]? with | none => true | some t => decide (defaultValue (ty0 j) = fv 0 (fun _ => 0, fun _ => none, fun _ => 0) j t)) = true) {B : Nat} : ∀ j t, (fty ci)[j]? = some t → defaultValue (ty0 j) = fv B (fun _ => 0, fun _ => none, fun _ => 0) j t := by
  intro j t ht
  have hj : j < N := by rw [← hl]; exact (List.getElem?_eq_some_iff.mp ht).1
  have h1 := List.all_eq_true.mp h j (List.mem_range.mpr hj)
  rw [ht] at h1
  have h2 := of_decide_eq_true h1
  rw [h2]
  unfold fv
  split <;> rfl
theorem hdv0 {B : Nat} : ∀ j t, (fty 0)[j]? = some t → defaultValue (tyX0 j) = fv B (fun _ => 0, fun _ => none, fun _ => 0) j t := hdvg (N := 7) rfl (by decide +kernel)
theorem hdv1 {B : Nat} : ∀ j t, (fty 1)[j]? = some t → defaultValue (tyX1 j) = fv B (fun _ => 0, fun _ => none, fun _ => 0) j t := hdvg (N := 6) rfl (by decide +kernel)
theorem hdv2 {B : Nat} : ∀ j t, (fty 2)[j]? = some t → defaultValue (tyX2 j) = fv B (fun _ => 0, fun _ => none, fun _ => 0) j t := hdvg (N := 10) rfl (by decide +kernel)
theorem hdv4 {B : Nat} : ∀ j t, (fty 4)[j]? = some t → defaultValue (tyX4 j) = fv B (fun _ => 0, fun _ => none, fun _ => 0) j t := hdvg (N := 3) rfl (by decide +kernel)
theorem hdv5 {B : Nat} : ∀ j t, (fty 5)[j]? = some t → defaultValue (tyX5 j) = fv B (fun _ => 0, fun _ => none, fun _ => 0) j t := hdvg (N := 7) rfl (by decide +kernel)
theorem hdv7 {B : Nat} : ∀ j t, (fty 7)[j]? = some t → defaultValue (tyX7 j) = fv B (fun _ => 0, fun _ => none, fun _ => 0) j t := hdvg (N := 3) rfl (by decide +kernel)
theorem hdv8 {B : Nat} : ∀ j t, (fty 8)[j]? = some t → defaultValue (tyX8 j) = fv B (fun _ => 0, fun _ => none, fun _ => 0) j t := hdvg (N := 7) rfl (by decide +kernel)
theorem hdv9 {B : Nat} : ∀ j t, (fty 9)[j]? = some t → defaultValue (tyX9 j) = fv B (fun _ => 0, fun _ => none, fun _ => 0) j t := hdvg (N := 1) rfl (by decide +kernel)
theorem hdv10 {B : Nat} : ∀ j t, (fty 10)[j]? = some t → defaultValue (tyX10 j) = fv B (fun _ => 0, fun _ => none, fun _ => 0) j t := hdvg (N := 12) rfl (by decide +kernel)
theorem hdv11 {B : Nat} : ∀ j t, (fty 11)[j]? = some t → defaultValue (tyX11 j) = fv B (fun _ => 0, fun _ => none, fun _ => 0) j t := hdvg (N := 56) rfl (by decide +kernel)
/-- a contract that asks for the class of rows of rules -/
def CO (w : Bool) (y : MethodName) (cy : Cond) (fr lo : Nat) (as : Nat → List Value) (σ : St) (v : Nat → Option Value) (σ' : St) (mc ms : Nat) : Prop :=
  ∀ (l : Launch) (D : DD) (B : Nat), Met l y (cy :: WT) { frames := fr, cells := mc, slots := ms, locals := lo } (va_Pc (as B) (fun U => Pic D B w σ U.heap ∧ KK D U ∧ va_AO RX6 U)) (QR D B w σ' (v B)) mc ms (fun q => B ≤ q)
theorem CO.of {w : Bool} {y : MethodName} {bytes : ByteArray} {maxL : Nat} {ret : Option FieldType} {fr lo : Nat} {as : Nat → List Value} {σ : St} {v : Nat → Option Value} {σ' : St} {mc ms : Nat} (lv : Nat → List (Nat × Value))
    (hy : plainName y.cls = true) (hlv : ∀ B, lv_args 0 (as B) = lv B) (hln : ∀ B, (lg_sl (as B)).length ≤ maxL)
    (hV : ∀ (Γ : Ga) (D : DD) (B : Nat), Cx Γ y.cls bytes maxL D B { frames := fr, cells := mc, slots := ms, locals := lo } → va_AO RX6 (Gs Γ) → (Gme Γ).sig.returnType = ret → (Gme Γ).name = y.name → V Γ D B w maxL (MQ (Gb Γ) (QR D B w σ' (v B)) (Ga' Γ) (Gs Γ) mc ms (fun q => B ≤ q)) 0 0 σ 0 (lv B) []) :
    CO w y (Cond.code y bytes maxL ret) fr lo as σ v σ' mc ms := by
  intro l D B
  refine Met.ofW (cc := bytes) (maxL := maxL) (ret := ret) hy rfl ?_
  intro p e s m args below meth c s₁ Bd hml hv
  obtain ⟨rfl, hP, hK, hAO⟩ := hv
  have hts := atoms_spec (ws := Cond.code y bytes maxL ret :: WT) Bd.pre
  have hown : s.vm.findClass y.cls = some m.cls := findClass_of_methodNamed Bd.named
  have hl := lv_entry (as B) (n := maxL) (hln B)
  rw [lg_entry_eq]
  rw [hlv B] at hl
  have hB : B ≤ s.heap.size := by rw [hP.1]; omega
  exact hV (p, l, e, _, s, m, _, below, meth, c) D B ⟨Bd.exec, Bd.bytes, hml, hown, fun x hx => hts x (List.mem_cons_of_mem _ hx), hK, Bd.notSynchronized, hB, rfl⟩ hAO Bd.returns (name_of_methodNamed Bd.named Bd.method).1 s.heap [] _ 0 0 hP va_S.rf hl (Nat.le_refl _) (Nat.le_refl _)
theorem va_AO.same {C : String} {u U : State} (hv : u.vm = U.vm) (h : va_AO C u) : va_AO C U := va_AO.moved (by rw [← hv]; exact Vm.Alike.refl u.vm) h
theorem blindO {as : List Value} {D : DD} {B : Nat} {w : Bool} {σ : St} : FrameBlind (va_Pc as (fun U => Pic D B w σ U.heap ∧ KK D U ∧ va_AO RX6 U)) :=
  fun a U g mk h => ⟨h.1, h.2.1, KK.same (s := U) (U := U.calling g mk a) rfl h.2.2.1, va_AO.same (u := U) (U := U.calling g mk a) rfl h.2.2.2⟩
section ZO
variable {Γ : Ga} {D : DD} {B : Nat} {w : Bool} {own : String} {cc : ByteArray} {nL : Nat} {rm : Room} {Q : State → Prop} {k n : Nat} {σ : St} {pc : Nat} {lv : List (Nat × Value)} {st : List Value}
theorem r_newq (X : Cx Γ own cc nL D B rm) (hAO : va_AO RX6 (Gs Γ)) {idx m : Nat} {i : Int32} (hcl : Cond.classLink own idx RX6 ∈ WT) (hi : ¬ i < 0) (hm : i.toNatClampNeg = m) (hb : m ≤ 5000) (hk1 : k + 1 ≤ rm.cells) (hn1 : n + m ≤ rm.slots) (d : decode cc pc = .ok (.anewarray idx, 3))
    (kk : V Γ D B w nL Q (k + 1) (n + m) (sN σ (.inr (.inr (.inr (m, fun _ => none))))) (pc + 3) lv (rfB B (some (sz σ)) :: st)) : V Γ D B w nL Q k n σ pc lv (.int i :: st) := by
  intro H locs ls cs ss hP hS hl hk hn
  have hR := X.2.2.2.2.2.2.2.2
  have hs := hP.1
  subst hm
  refine W.anew X.1 X.2.1 X.2.2.2.1 (X.w hcl) (va_AO.use hAO) rfl d rfl hi (by omega) (by show cs + 1 ≤ (GR Γ).cells; rw [hR]; omega) (by show ss + _ ≤ (GR Γ).slots; rw [hR]; omega) fun cA kA comp f1 f2 f3 f4 => ?_
  generalize hH1 : H.push ({ cls := cA, slots := Array.replicate i.toNatClampNeg .null, vm := .none } : Cell) = H1
  have z1 : H1.size = H.size + 1 := by rw [← hH1, Array.size_push]
  have e1 : H1[H.size]? = some (arrV cA i.toNatClampNeg (fun _ => .null)) := by rw [← hH1, Array.getElem?_push_size, ← arrV_new]
  have o1 : ∀ q : Nat, q < H.size → H1[q]? = H[q]? := fun q hq => by rw [← hH1, Array.getElem?_push, if_neg (Nat.ne_of_lt hq)]
  have hcA : cA = D.2 4 := by
    obtain ⟨-, -, -, -, -, -, h9⟩ := X.2.2.2.2.2.1.1.2 4 _ rfl
    exact Option.some.inj (f1.symm.trans h9)
  subst hcA
  have e2 : F0 (Gm Γ) (pc + 3) ls (Value.ref H.size :: st) = F0 (Gm Γ) (pc + 3) ls (rfB B (some (sz σ)) :: st) := by rw [hs]; rfl
  refine W.eq e2 (kk H1 locs ls (cs + 1) (ss + i.toNatClampNeg) (hP.born ?_ z1 o1) ⟨Nat.le_trans hS.1 (by omega), fun x h1 h2 => (o1 x (Nat.lt_of_lt_of_le h1 hS.1)).trans (hS.2.1 x h1 h2), hS.2.2⟩ hl (by omega) (by omega))
  exact e1
/-- a constructor that asks for the class of rows of rules -/
theorem o_callI (X : Cx Γ own cc nL D B rm) (hAO : va_AO RX6 (Gs Γ)) {idx maxL fr lo mc ms a : Nat} {y : MethodName} {bytes : ByteArray} {as : Nat → List Value} {σ1 : St} {As : List Value} (hC : CO w y (Cond.code y bytes maxL none) fr lo as σ (fun _ => none) σ1 mc ms) (has : as B = .ref (B + a) :: As)
    (hml : Cond.methodLink own idx y ∈ WT) (hin : Cond.instanceMethod y ∈ WT) (hini : Cond.initialized y.cls ∈ WT) (hco : Cond.code y bytes maxL none ∈ WT) (hy1 : y.name = "<init>") (hd : y.cls ≠ "java/lang/invoke/MethodHandle" ∧ y.cls ≠ "java/lang/invoke/VarHandle" ∧ (parseMethodDescriptor y.desc).map (fun d => d.parameters.length) = some As.length)
    (hR : fr + 1 ≤ rm.frames ∧ 8 + (maxL + 11) + lo ≤ rm.locals) (hk1 : k + mc ≤ rm.cells) (hn1 : n + ms ≤ rm.slots) (hrm : (st.map fun v => v.category).sum ≤ 8) (d : decode cc pc = .ok (.invokespecial idx, 3)) {pre : List Value} (hpre : pre = As.reverse ++ .ref (B + a) :: st)
    (kk : V Γ D B w nL Q (k + mc) (n + ms) σ1 (pc + 3) lv st) : V Γ D B w nL Q k n σ pc lv pre := by
  subst hpre
  intro H locs ls cs ss hP hS hl hk hn
  have hR9 := X.2.2.2.2.2.2.2.2
  refine w_call X hl hS (v := none) (va_runI (As := As) (rest := st) ⟨X.1, X.2.1, X.2.2.1, X.2.2.2.1, X.2.2.2.2.1⟩ (hC Γ.2.1 D B) (cwI As.length X.2.2.2.2.1 (WT_call hco) rfl rfl rfl (X.w hini) (X.w hml) (X.w hin) hy1 hd ⟨by show fr + 1 ≤ (GR Γ).frames; rw [hR9]; exact hR.1, by show 8 + (maxL + 11) + lo ≤ (GR Γ).locals; rw [hR9]; exact hR.2⟩) ⟨blindO, fun U hU hW => ⟨by rw [has], by rw [hU]; exact hP, KK.moved hW X.2.2.2.2.2.1, va_AO.moved hW.alike hAO⟩⟩ rfl rfl hl.1 rfl (lv_room hrm) d ⟨by show cs + mc ≤ (GR Γ).cells; rw [hR9]; omega, by show ss + ms ≤ (GR Γ).slots; rw [hR9]; omega⟩) hk hn kk
end ZO
theorem w_100 : Cond.methodLink RX10 3 objectInit ∈ WT := WT_in (List.mem_of_getElem? (i := 100) (by decide +kernel)) (by decide +kernel)
theorem w_148 : Cond.arrayClass .char ∈ WT := WT_in (List.mem_of_getElem? (i := 148) (by decide +kernel)) (by decide +kernel)
theorem w_105 : Cond.classLink RX10 29 RX2 ∈ WT := WT_in (List.mem_of_getElem? (i := 105) (by decide +kernel)) (by decide +kernel)
theorem w_106 : Cond.instantiable RX2 10 ∈ WT := WT_in (List.mem_of_getElem? (i := 106) (by decide +kernel)) (by decide +kernel)
theorem w_110 : Cond.methodLink RX2 3 objectInit ∈ WT := WT_in (List.mem_of_getElem? (i := 110) (by decide +kernel)) (by decide +kernel)
theorem wn_107 : Cond.methodLinkNest RX10 31 yX2_init "Pagerloom" ∈ tables_1 := List.mem_of_getElem? (i := 34) (by decide +kernel)
theorem w_108 : Cond.instanceMethod yX2_init ∈ WT := WT_in (List.mem_of_getElem? (i := 108) (by decide +kernel)) (by decide +kernel)
theorem w_109 : Cond.code yX2_init cX2_init 1 none ∈ WT := WT_in (List.mem_of_getElem? (i := 109) (by decide +kernel)) (by decide +kernel)
theorem w_150 : Cond.classLink RX10 36 RX5 ∈ WT := WT_in (List.mem_of_getElem? (i := 150) (by decide +kernel)) (by decide +kernel)
theorem w_151 : Cond.instantiable RX5 7 ∈ WT := WT_in (List.mem_of_getElem? (i := 151) (by decide +kernel)) (by decide +kernel)
theorem w_155 : Cond.methodLink RX5 3 objectInit ∈ WT := WT_in (List.mem_of_getElem? (i := 155) (by decide +kernel)) (by decide +kernel)
theorem w_156 : Cond.methodLink RX5 34 yJ7_fill_53178 ∈ WT := WT_in (List.mem_of_getElem? (i := 156) (by decide +kernel)) (by decide +kernel)
theorem w_157 : Cond.static yJ7_fill_53178 ∈ WT := WT_in (List.mem_of_getElem? (i := 157) (by decide +kernel)) (by decide +kernel)
theorem w_77 : Cond.initialized RJ7 ∈ WT := WT_in (List.mem_of_getElem? (i := 77) (by decide +kernel)) (by decide +kernel)
theorem w_158 : Cond.code yJ7_fill_53178 cJ7_fill_53178 4 none ∈ WT := WT_in (List.mem_of_getElem? (i := 158) (by decide +kernel)) (by decide +kernel)
theorem w_152 : Cond.methodLink RX10 38 yX5_init ∈ WT := WT_in (List.mem_of_getElem? (i := 152) (by decide +kernel)) (by decide +kernel)
theorem w_153 : Cond.instanceMethod yX5_init ∈ WT := WT_in (List.mem_of_getElem? (i := 153) (by decide +kernel)) (by decide +kernel)
theorem w_154 : Cond.code yX5_init cX5_init 1 none ∈ WT := WT_in (List.mem_of_getElem? (i := 154) (by decide +kernel)) (by decide +kernel)
theorem w_183 : Cond.classLink RX10 43 RX0 ∈ WT := WT_in (List.mem_of_getElem? (i := 183) (by decide +kernel)) (by decide +kernel)
theorem w_184 : Cond.instantiable RX0 7 ∈ WT := WT_in (List.mem_of_getElem? (i := 184) (by decide +kernel)) (by decide +kernel)
theorem w_188 : Cond.methodLink RX0 3 objectInit ∈ WT := WT_in (List.mem_of_getElem? (i := 188) (by decide +kernel)) (by decide +kernel)
theorem w_218 : Cond.arrayClass .boolean ∈ WT := WT_in (List.mem_of_getElem? (i := 218) (by decide +kernel)) (by decide +kernel)
theorem w_197 : Cond.fieldLink RX0 24 "Pagerloom$Alarms" "isAnswered" "[Z" ∈ WT := WT_in (List.mem_of_getElem? (i := 197) (by decide +kernel)) (by decide +kernel)
theorem wn_185 : Cond.methodLinkNest RX10 45 yX0_init "Pagerloom" ∈ tables_1 := List.mem_of_getElem? (i := 112) (by decide +kernel)
theorem w_186 : Cond.instanceMethod yX0_init ∈ WT := WT_in (List.mem_of_getElem? (i := 186) (by decide +kernel)) (by decide +kernel)
theorem w_187 : Cond.code yX0_init cX0_init 1 none ∈ WT := WT_in (List.mem_of_getElem? (i := 187) (by decide +kernel)) (by decide +kernel)
theorem w_219 : Cond.classLink RX10 50 RX4 ∈ WT := WT_in (List.mem_of_getElem? (i := 219) (by decide +kernel)) (by decide +kernel)
theorem w_220 : Cond.instantiable RX4 3 ∈ WT := WT_in (List.mem_of_getElem? (i := 220) (by decide +kernel)) (by decide +kernel)
theorem w_224 : Cond.methodLink RX4 3 objectInit ∈ WT := WT_in (List.mem_of_getElem? (i := 224) (by decide +kernel)) (by decide +kernel)
theorem wn_221 : Cond.methodLinkNest RX10 52 yX4_init "Pagerloom" ∈ tables_1 := List.mem_of_getElem? (i := 148) (by decide +kernel)
theorem w_222 : Cond.instanceMethod yX4_init ∈ WT := WT_in (List.mem_of_getElem? (i := 222) (by decide +kernel)) (by decide +kernel)
theorem w_223 : Cond.code yX4_init cX4_init 1 none ∈ WT := WT_in (List.mem_of_getElem? (i := 223) (by decide +kernel)) (by decide +kernel)
theorem w_235 : Cond.classLink RX10 57 RX1 ∈ WT := WT_in (List.mem_of_getElem? (i := 235) (by decide +kernel)) (by decide +kernel)
theorem w_236 : Cond.instantiable RX1 6 ∈ WT := WT_in (List.mem_of_getElem? (i := 236) (by decide +kernel)) (by decide +kernel)
theorem w_240 : Cond.methodLink RX1 3 objectInit ∈ WT := WT_in (List.mem_of_getElem? (i := 240) (by decide +kernel)) (by decide +kernel)
theorem wn_237 : Cond.methodLinkNest RX10 59 yX1_init "Pagerloom" ∈ tables_1 := List.mem_of_getElem? (i := 164) (by decide +kernel)
theorem w_238 : Cond.instanceMethod yX1_init ∈ WT := WT_in (List.mem_of_getElem? (i := 238) (by decide +kernel)) (by decide +kernel)
theorem w_239 : Cond.code yX1_init cX1_init 1 none ∈ WT := WT_in (List.mem_of_getElem? (i := 239) (by decide +kernel)) (by decide +kernel)
theorem w_262 : Cond.classLink RX10 64 RX9 ∈ WT := WT_in (List.mem_of_getElem? (i := 262) (by decide +kernel)) (by decide +kernel)
theorem w_263 : Cond.instantiable RX9 1 ∈ WT := WT_in (List.mem_of_getElem? (i := 263) (by decide +kernel)) (by decide +kernel)
theorem w_267 : Cond.methodLink RX9 3 objectInit ∈ WT := WT_in (List.mem_of_getElem? (i := 267) (by decide +kernel)) (by decide +kernel)
theorem w_268 : Cond.classLink RX9 9 RX8 ∈ WT := WT_in (List.mem_of_getElem? (i := 268) (by decide +kernel)) (by decide +kernel)
theorem w_269 : Cond.instantiable RX8 7 ∈ WT := WT_in (List.mem_of_getElem? (i := 269) (by decide +kernel)) (by decide +kernel)
theorem w_273 : Cond.methodLink RX8 3 objectInit ∈ WT := WT_in (List.mem_of_getElem? (i := 273) (by decide +kernel)) (by decide +kernel)
theorem wn_270 : Cond.methodLinkNest RX9 11 yX8_init "Pagerloom" ∈ tables_1 := List.mem_of_getElem? (i := 197) (by decide +kernel)
theorem w_271 : Cond.instanceMethod yX8_init ∈ WT := WT_in (List.mem_of_getElem? (i := 271) (by decide +kernel)) (by decide +kernel)
theorem w_272 : Cond.code yX8_init cX8_init 1 none ∈ WT := WT_in (List.mem_of_getElem? (i := 272) (by decide +kernel)) (by decide +kernel)
theorem wn_264 : Cond.methodLinkNest RX10 66 yX9_init "Pagerloom" ∈ tables_1 := List.mem_of_getElem? (i := 191) (by decide +kernel)
theorem w_265 : Cond.instanceMethod yX9_init ∈ WT := WT_in (List.mem_of_getElem? (i := 265) (by decide +kernel)) (by decide +kernel)
theorem w_266 : Cond.code yX9_init cX9_init 1 none ∈ WT := WT_in (List.mem_of_getElem? (i := 266) (by decide +kernel)) (by decide +kernel)
theorem w_300 : Cond.classLink RX10 71 RX7 ∈ WT := WT_in (List.mem_of_getElem? (i := 300) (by decide +kernel)) (by decide +kernel)
theorem w_301 : Cond.instantiable RX7 3 ∈ WT := WT_in (List.mem_of_getElem? (i := 301) (by decide +kernel)) (by decide +kernel)
theorem w_305 : Cond.methodLink RX7 3 objectInit ∈ WT := WT_in (List.mem_of_getElem? (i := 305) (by decide +kernel)) (by decide +kernel)
theorem w_306 : Cond.classLink RX7 9 RX8 ∈ WT := WT_in (List.mem_of_getElem? (i := 306) (by decide +kernel)) (by decide +kernel)
theorem wn_307 : Cond.methodLinkNest RX7 11 yX8_init "Pagerloom" ∈ tables_1 := List.mem_of_getElem? (i := 234) (by decide +kernel)
theorem w_318 : Cond.arrayClass .long ∈ WT := WT_in (List.mem_of_getElem? (i := 318) (by decide +kernel)) (by decide +kernel)
theorem wn_302 : Cond.methodLinkNest RX10 73 yX7_init "Pagerloom" ∈ tables_1 := List.mem_of_getElem? (i := 229) (by decide +kernel)
theorem w_303 : Cond.instanceMethod yX7_init ∈ WT := WT_in (List.mem_of_getElem? (i := 303) (by decide +kernel)) (by decide +kernel)
theorem w_304 : Cond.code yX7_init cX7_init 1 none ∈ WT := WT_in (List.mem_of_getElem? (i := 304) (by decide +kernel)) (by decide +kernel)
theorem w_1079 : Cond.methodLink RX11 1 objectInit ∈ WT := WT_in (List.mem_of_getElem? (i := 1079) (by decide +kernel)) (by decide +kernel)
theorem hdS_X2_init : yX2_init.cls ≠ "java/lang/invoke/MethodHandle" ∧ yX2_init.cls ≠ "java/lang/invoke/VarHandle" ∧ (parseMethodDescriptor yX2_init.desc).map (fun d => d.parameters.length) = some 0 := by decide +kernel
theorem hdS_J7_fill_53178 : yJ7_fill_53178.cls ≠ "java/lang/invoke/MethodHandle" ∧ yJ7_fill_53178.cls ≠ "java/lang/invoke/VarHandle" ∧ (parseMethodDescriptor yJ7_fill_53178.desc).map (fun d => d.parameters.length) = some 2 := by decide +kernel
theorem hdS_X5_init : yX5_init.cls ≠ "java/lang/invoke/MethodHandle" ∧ yX5_init.cls ≠ "java/lang/invoke/VarHandle" ∧ (parseMethodDescriptor yX5_init.desc).map (fun d => d.parameters.length) = some 0 := by decide +kernel
theorem hdS_X0_init : yX0_init.cls ≠ "java/lang/invoke/MethodHandle" ∧ yX0_init.cls ≠ "java/lang/invoke/VarHandle" ∧ (parseMethodDescriptor yX0_init.desc).map (fun d => d.parameters.length) = some 0 := by decide +kernel
theorem hdS_X4_init : yX4_init.cls ≠ "java/lang/invoke/MethodHandle" ∧ yX4_init.cls ≠ "java/lang/invoke/VarHandle" ∧ (parseMethodDescriptor yX4_init.desc).map (fun d => d.parameters.length) = some 0 := by decide +kernel
theorem hdS_X1_init : yX1_init.cls ≠ "java/lang/invoke/MethodHandle" ∧ yX1_init.cls ≠ "java/lang/invoke/VarHandle" ∧ (parseMethodDescriptor yX1_init.desc).map (fun d => d.parameters.length) = some 0 := by decide +kernel
theorem hdS_X8_init : yX8_init.cls ≠ "java/lang/invoke/MethodHandle" ∧ yX8_init.cls ≠ "java/lang/invoke/VarHandle" ∧ (parseMethodDescriptor yX8_init.desc).map (fun d => d.parameters.length) = some 0 := by decide +kernel
theorem hdS_X9_init : yX9_init.cls ≠ "java/lang/invoke/MethodHandle" ∧ yX9_init.cls ≠ "java/lang/invoke/VarHandle" ∧ (parseMethodDescriptor yX9_init.desc).map (fun d => d.parameters.length) = some 0 := by decide +kernel
theorem hdS_X7_init : yX7_init.cls ≠ "java/lang/invoke/MethodHandle" ∧ yX7_init.cls ≠ "java/lang/invoke/VarHandle" ∧ (parseMethodDescriptor yX7_init.desc).map (fun d => d.parameters.length) = some 0 := by decide +kernel
/-! f_Logs_init -/
theorem dX2_init_0 : decode cX2_init 0 = .ok (.aload_n 0, 1) := by decide +kernel
theorem dX2_init_1 : decode cX2_init 1 = .ok (.invokespecial 3, 3) := by decide +kernel
theorem dX2_init_4 : decode cX2_init 4 = .ok (.aload_n 0, 1) := by decide +kernel
theorem dX2_init_5 : decode cX2_init 5 = .ok (.bipush 100, 2) := by decide +kernel
theorem dX2_init_7 : decode cX2_init 7 = .ok (.newarray .int, 2) := by decide +kernel
theorem dX2_init_9 : decode cX2_init 9 = .ok (.putfield 9, 3) := by decide +kernel
theorem dX2_init_12 : decode cX2_init 12 = .ok (.aload_n 0, 1) := by decide +kernel
theorem dX2_init_13 : decode cX2_init 13 = .ok (.bipush 100, 2) := by decide +kernel
theorem dX2_init_15 : decode cX2_init 15 = .ok (.newarray .int, 2) := by decide +kernel
theorem dX2_init_17 : decode cX2_init 17 = .ok (.putfield 15, 3) := by decide +kernel
theorem dX2_init_20 : decode cX2_init 20 = .ok (.aload_n 0, 1) := by decide +kernel
theorem dX2_init_21 : decode cX2_init 21 = .ok (.bipush 100, 2) := by decide +kernel
theorem dX2_init_23 : decode cX2_init 23 = .ok (.newarray .int, 2) := by decide +kernel
theorem dX2_init_25 : decode cX2_init 25 = .ok (.putfield 18, 3) := by decide +kernel
theorem dX2_init_28 : decode cX2_init 28 = .ok (.aload_n 0, 1) := by decide +kernel
theorem dX2_init_29 : decode cX2_init 29 = .ok (.bipush 100, 2) := by decide +kernel
theorem dX2_init_31 : decode cX2_init 31 = .ok (.newarray .int, 2) := by decide +kernel
theorem dX2_init_33 : decode cX2_init 33 = .ok (.putfield 21, 3) := by decide +kernel
theorem dX2_init_36 : decode cX2_init 36 = .ok (.aload_n 0, 1) := by decide +kernel
theorem dX2_init_37 : decode cX2_init 37 = .ok (.bipush 100, 2) := by decide +kernel
theorem dX2_init_39 : decode cX2_init 39 = .ok (.newarray .int, 2) := by decide +kernel
theorem dX2_init_41 : decode cX2_init 41 = .ok (.putfield 24, 3) := by decide +kernel
theorem dX2_init_44 : decode cX2_init 44 = .ok (.aload_n 0, 1) := by decide +kernel
theorem dX2_init_45 : decode cX2_init 45 = .ok (.bipush 100, 2) := by decide +kernel
theorem dX2_init_47 : decode cX2_init 47 = .ok (.newarray .int, 2) := by decide +kernel
theorem dX2_init_49 : decode cX2_init 49 = .ok (.putfield 27, 3) := by decide +kernel
theorem dX2_init_52 : decode cX2_init 52 = .ok (.aload_n 0, 1) := by decide +kernel
theorem dX2_init_53 : decode cX2_init 53 = .ok (.sipush 1002, 3) := by decide +kernel
theorem dX2_init_56 : decode cX2_init 56 = .ok (.newarray .int, 2) := by decide +kernel
theorem dX2_init_58 : decode cX2_init 58 = .ok (.putfield 30, 3) := by decide +kernel
theorem dX2_init_61 : decode cX2_init 61 = .ok (.aload_n 0, 1) := by decide +kernel
theorem dX2_init_62 : decode cX2_init 62 = .ok (.bipush 100, 2) := by decide +kernel
theorem dX2_init_64 : decode cX2_init 64 = .ok (.newarray .int, 2) := by decide +kernel
theorem dX2_init_66 : decode cX2_init 66 = .ok (.putfield 33, 3) := by decide +kernel
theorem dX2_init_69 : decode cX2_init 69 = .ok (.aload_n 0, 1) := by decide +kernel
theorem dX2_init_70 : decode cX2_init 70 = .ok (.iconst 0, 1) := by decide +kernel
theorem dX2_init_71 : decode cX2_init 71 = .ok (.putfield 36, 3) := by decide +kernel
theorem dX2_init_74 : decode cX2_init 74 = .ok (.aload_n 0, 1) := by decide +kernel
theorem dX2_init_75 : decode cX2_init 75 = .ok (.iconst 0, 1) := by decide +kernel
theorem dX2_init_76 : decode cX2_init 76 = .ok (.putfield 40, 3) := by decide +kernel
theorem dX2_init_79 : decode cX2_init 79 = .ok (.return_, 1) := by decide +kernel
def f_Logs_init (F : Nat) (s : St) (p0 : Option Nat) : Option (St) :=
  (dgo s p0 2).bind fun _ => (lt (sN s (.inr (.inl (1, 100, fun _ => 0)))) fun s1 => ((dgo s1 p0 2).bind fun o2 => (lt (sF s1 o2 2 (o2.2.1, ups o2.2.2.1 0 (some (sz s)), o2.2.2.2)) fun s3 => (lt (sN s3 (.inr (.inl (1, 100, fun _ => 0)))) fun s4 => ((dgo s4 p0 2).bind fun o5 => (lt (sF s4 o5 2 (o5.2.1, ups o5.2.2.1 1 (some (sz s3)), o5.2.2.2)) fun s6 => (lt (sN s6 (.inr (.inl (1, 100, fun _ => 0)))) fun s7 => ((dgo s7 p0 2).bind fun o8 => (lt (sF s7 o8 2 (o8.2.1, ups o8.2.2.1 2 (some (sz s6)), o8.2.2.2)) fun s9 => (lt (sN s9 (.inr (.inl (1, 100, fun _ => 0)))) fun s10 => ((dgo s10 p0 2).bind fun o11 => (lt (sF s10 o11 2 (o11.2.1, ups o11.2.2.1 3 (some (sz s9)), o11.2.2.2)) fun s12 => (lt (sN s12 (.inr (.inl (1, 100, fun _ => 0)))) fun s13 => ((dgo s13 p0 2).bind fun o14 => (lt (sF s13 o14 2 (o14.2.1, ups o14.2.2.1 4 (some (sz s12)), o14.2.2.2)) fun s15 => (lt (sN s15 (.inr (.inl (1, 100, fun _ => 0)))) fun s16 => ((dgo s16 p0 2).bind fun o17 => (lt (sF s16 o17 2 (o17.2.1, ups o17.2.2.1 5 (some (sz s15)), o17.2.2.2)) fun s18 => (lt (sN s18 (.inr (.inl (1, 1002, fun _ => 0)))) fun s19 => ((dgo s19 p0 2).bind fun o20 => (lt (sF s19 o20 2 (o20.2.1, ups o20.2.2.1 6 (some (sz s18)), o20.2.2.2)) fun s21 => (lt (sN s21 (.inr (.inl (1, 100, fun _ => 0)))) fun s22 => ((dgo s22 p0 2).bind fun o23 => (lt (sF s22 o23 2 (o23.2.1, ups o23.2.2.1 7 (some (sz s21)), o23.2.2.2)) fun s24 => ((dgo s24 p0 2).bind fun o25 => (lt (sF s24 o25 2 (ups o25.2.1 8 0, o25.2.2)) fun s26 => ((dgo s26 p0 2).bind fun o27 => (lt (sF s26 o27 2 (ups o27.2.1 9 0, o27.2.2)) fun s28 => (some s28)))))))))))))))))))))))))))))
set_option maxHeartbeats 1000000 in
theorem c_f_Logs_init {F : Nat} {s : St} {p0 : Option Nat} {s' : St} (hf : f_Logs_init F s p0 = some s') : CC false yX2_init (Cond.code yX2_init cX2_init 1 none) (1) (12) (fun B => [rfB B p0]) s (fun B => none) s' 8 1702 := by
  refine CC.of (fun B => [(0, rfB B p0)]) (by decide +kernel) (fun _ => (by simp [lv_args, rfB_cat, catI, catL, catR])) (fun _ => (by simp [lg_sl, rfB_cat, catI, catL, catR])) (fun Γ D B X hr hin => ?_)
  have X : Cx Γ RX2 cX2_init 1 D B { frames := 1, cells := 8, slots := 1702, locals := 12 } := X
  unfold f_Logs_init at hf
  refine r_aload_n (pc := 0) X dX2_init_0 0 rfl ?_
  refine b_recv (w := false) (B := B) (D := D) rfl hf (fun a hx hrc hf => ?_)
  refine r_objInit (pc := 1) X hx w_110 w_101 w_objcode (Nat.le_of_ble_eq_true rfl) (Nat.le_of_ble_eq_true rfl) dX2_init_1 ?_
  refine r_aload_n (pc := 4) X dX2_init_4 0 rfl ?_
  refine r_bipush (v := 100) (pc := 5) X dX2_init_5 (by decide) ?_
  refine r_newa (t := 1) (ty := .int) (atype := .int) (pc := 7) X w_149 rfl rfl (by decide) (by decide) (m := 100) (by decide) (by decide) (by decide) (by decide) dX2_init_7 ?_
  refine lts hf (fun s1 hf => ?_)
  refine b_dputR (j := 0) (pc := 9) X rfl inT2 tyX2 tyX2_ok nmX2 (by decide) w_111 (Or.inr ⟨rfl, hin, rfl⟩) (tyX2_ok 0 (by decide)) (Or.inr ⟨_, rfl⟩) rfl dX2_init_9 hf (fun o2 s3 hf => ?_)
  refine r_aload_n (pc := 12) X dX2_init_12 0 rfl ?_
  refine r_bipush (v := 100) (pc := 13) X dX2_init_13 (by decide) ?_
  refine r_newa (t := 1) (ty := .int) (atype := .int) (pc := 15) X w_149 rfl rfl (by decide) (by decide) (m := 100) (by decide) (by decide) (by decide) (by decide) dX2_init_15 ?_
  refine lts hf (fun s4 hf => ?_)
  refine b_dputR (j := 1) (pc := 17) X rfl inT2 tyX2 tyX2_ok nmX2 (by decide) w_112 (Or.inr ⟨rfl, hin, rfl⟩) (tyX2_ok 1 (by decide)) (Or.inr ⟨_, rfl⟩) rfl dX2_init_17 hf (fun o5 s6 hf => ?_)
  refine r_aload_n (pc := 20) X dX2_init_20 0 rfl ?_
  refine r_bipush (v := 100) (pc := 21) X dX2_init_21 (by decide) ?_
  refine r_newa (t := 1) (ty := .int) (atype := .int) (pc := 23) X w_149 rfl rfl (by decide) (by decide) (m := 100) (by decide) (by decide) (by decide) (by decide) dX2_init_23 ?_
  refine lts hf (fun s7 hf => ?_)
  refine b_dputR (j := 2) (pc := 25) X rfl inT2 tyX2 tyX2_ok nmX2 (by decide) w_113 (Or.inr ⟨rfl, hin, rfl⟩) (tyX2_ok 2 (by decide)) (Or.inr ⟨_, rfl⟩) rfl dX2_init_25 hf (fun o8 s9 hf => ?_)
  refine r_aload_n (pc := 28) X dX2_init_28 0 rfl ?_
  refine r_bipush (v := 100) (pc := 29) X dX2_init_29 (by decide) ?_
  refine r_newa (t := 1) (ty := .int) (atype := .int) (pc := 31) X w_149 rfl rfl (by decide) (by decide) (m := 100) (by decide) (by decide) (by decide) (by decide) dX2_init_31 ?_
  refine lts hf (fun s10 hf => ?_)
  refine b_dputR (j := 3) (pc := 33) X rfl inT2 tyX2 tyX2_ok nmX2 (by decide) w_114 (Or.inr ⟨rfl, hin, rfl⟩) (tyX2_ok 3 (by decide)) (Or.inr ⟨_, rfl⟩) rfl dX2_init_33 hf (fun o11 s12 hf => ?_)
  refine r_aload_n (pc := 36) X dX2_init_36 0 rfl ?_
  refine r_bipush (v := 100) (pc := 37) X dX2_init_37 (by decide) ?_
  refine r_newa (t := 1) (ty := .int) (atype := .int) (pc := 39) X w_149 rfl rfl (by decide) (by decide) (m := 100) (by decide) (by decide) (by decide) (by decide) dX2_init_39 ?_
  refine lts hf (fun s13 hf => ?_)
  refine b_dputR (j := 4) (pc := 41) X rfl inT2 tyX2 tyX2_ok nmX2 (by decide) w_115 (Or.inr ⟨rfl, hin, rfl⟩) (tyX2_ok 4 (by decide)) (Or.inr ⟨_, rfl⟩) rfl dX2_init_41 hf (fun o14 s15 hf => ?_)
  refine r_aload_n (pc := 44) X dX2_init_44 0 rfl ?_
  refine r_bipush (v := 100) (pc := 45) X dX2_init_45 (by decide) ?_
  refine r_newa (t := 1) (ty := .int) (atype := .int) (pc := 47) X w_149 rfl rfl (by decide) (by decide) (m := 100) (by decide) (by decide) (by decide) (by decide) dX2_init_47 ?_
  refine lts hf (fun s16 hf => ?_)
  refine b_dputR (j := 5) (pc := 49) X rfl inT2 tyX2 tyX2_ok nmX2 (by decide) w_116 (Or.inr ⟨rfl, hin, rfl⟩) (tyX2_ok 5 (by decide)) (Or.inr ⟨_, rfl⟩) rfl dX2_init_49 hf (fun o17 s18 hf => ?_)
  refine r_aload_n (pc := 52) X dX2_init_52 0 rfl ?_
  refine r_sipush (v := 1002) (pc := 53) X dX2_init_53 (by decide) ?_
  refine r_newa (t := 1) (ty := .int) (atype := .int) (pc := 56) X w_149 rfl rfl (by decide) (by decide) (m := 1002) (by decide) (by decide) (by decide) (by decide) dX2_init_56 ?_
  refine lts hf (fun s19 hf => ?_)
  refine b_dputR (j := 6) (pc := 58) X rfl inT2 tyX2 tyX2_ok nmX2 (by decide) w_117 (Or.inr ⟨rfl, hin, rfl⟩) (tyX2_ok 6 (by decide)) (Or.inr ⟨_, rfl⟩) rfl dX2_init_58 hf (fun o20 s21 hf => ?_)
  refine r_aload_n (pc := 61) X dX2_init_61 0 rfl ?_
  refine r_bipush (v := 100) (pc := 62) X dX2_init_62 (by decide) ?_
  refine r_newa (t := 1) (ty := .int) (atype := .int) (pc := 64) X w_149 rfl rfl (by decide) (by decide) (m := 100) (by decide) (by decide) (by decide) (by decide) dX2_init_64 ?_
  refine lts hf (fun s22 hf => ?_)
  refine b_dputR (j := 7) (pc := 66) X rfl inT2 tyX2 tyX2_ok nmX2 (by decide) w_118 (Or.inr ⟨rfl, hin, rfl⟩) (tyX2_ok 7 (by decide)) (Or.inr ⟨_, rfl⟩) rfl dX2_init_66 hf (fun o23 s24 hf => ?_)
  refine r_aload_n (pc := 69) X dX2_init_69 0 rfl ?_
  refine r_iconst (v := 0) (pc := 70) X dX2_init_70 (by decide) ?_
  refine b_dputI (j := 8) (pc := 71) X rfl inT2 tyX2 tyX2_ok nmX2 (by decide) w_121 (Or.inl rfl) (tyX2_ok 8 (by decide)) rfl rfl rfl dX2_init_71 hf (fun o25 s26 hf => ?_)
  refine r_aload_n (pc := 74) X dX2_init_74 0 rfl ?_
  refine r_iconst (v := 0) (pc := 75) X dX2_init_75 (by decide) ?_
  refine b_dputI (j := 9) (pc := 76) X rfl inT2 tyX2 tyX2_ok nmX2 (by decide) w_123 (Or.inl rfl) (tyX2_ok 9 (by decide)) rfl rfl rfl dX2_init_76 hf (fun o27 s28 hf => ?_)
  exact e_vret (pc := 79) X hr hf (by decide) (by decide) dX2_init_79
/-! f_fill -/
theorem dJ7_fill_53178_0 : decode cJ7_fill_53178 0 = .ok (.iconst 0, 1) := by decide +kernel
theorem dJ7_fill_53178_1 : decode cJ7_fill_53178 1 = .ok (.istore_n 2, 1) := by decide +kernel
theorem dJ7_fill_53178_2 : decode cJ7_fill_53178 2 = .ok (.aload_n 0, 1) := by decide +kernel
theorem dJ7_fill_53178_3 : decode cJ7_fill_53178 3 = .ok (.arraylength, 1) := by decide +kernel
theorem dJ7_fill_53178_4 : decode cJ7_fill_53178 4 = .ok (.istore_n 3, 1) := by decide +kernel
theorem dJ7_fill_53178_5 : decode cJ7_fill_53178 5 = .ok (.iload_n 2, 1) := by decide +kernel
theorem dJ7_fill_53178_6 : decode cJ7_fill_53178 6 = .ok (.iload_n 3, 1) := by decide +kernel
theorem dJ7_fill_53178_7 : decode cJ7_fill_53178 7 = .ok (.if_icmp .ge 13, 3) := by decide +kernel
theorem dJ7_fill_53178_10 : decode cJ7_fill_53178 10 = .ok (.aload_n 0, 1) := by decide +kernel
theorem dJ7_fill_53178_11 : decode cJ7_fill_53178 11 = .ok (.iload_n 2, 1) := by decide +kernel
theorem dJ7_fill_53178_12 : decode cJ7_fill_53178 12 = .ok (.iload_n 1, 1) := by decide +kernel
theorem dJ7_fill_53178_13 : decode cJ7_fill_53178 13 = .ok (.iastore, 1) := by decide +kernel
theorem dJ7_fill_53178_14 : decode cJ7_fill_53178 14 = .ok (.iinc 2 1, 3) := by decide +kernel
theorem dJ7_fill_53178_17 : decode cJ7_fill_53178 17 = .ok (.goto (-12), 3) := by decide +kernel
theorem dJ7_fill_53178_20 : decode cJ7_fill_53178 20 = .ok (.return_, 1) := by decide +kernel
def f_fill_b5 (F : Nat) : Nat → St → Option Nat → Int32 → Int32 → Int32 → Option (St)
  | 0, _, _, _, _, _ => none
  | n + 1, s, l0, l1, l2, l3 =>
    if l3 ≤ l2 then
      (some s)
    else
      ((dga s l0 1).bind fun o2 => ((ix o2.2.1 l2).bind fun j3 => (lt (sD s o2.1 (.inr (.inl (1, o2.2.1, ups o2.2.2 j3 l1)))) fun s4 => (f_fill_b5 F n s4 l0 l1 (l2 + 1) l3))))
def f_fill (F : Nat) (s : St) (p0 : Option Nat) (p1 : Int32) : Option (St) :=
  (dga s p0 1).bind fun o1 => (f_fill_b5 F F s p0 p1 0 (Int32.ofNat o1.2.1))
set_option maxHeartbeats 1000000 in
theorem c_f_fill_b5 {F : Nat} {Γ : Ga} {D : DD} {B : Nat} {s' : St} (X : Cx Γ RJ7 cJ7_fill_53178 4 D B { frames := 0, cells := 0, slots := 0, locals := 0 }) (hr : (Gme Γ).sig.returnType = none) : ∀ (n : Nat) {s : St} {l0 : Option Nat} {l1 : Int32} {l2 : Int32} {l3 : Int32}, f_fill_b5 F n s l0 l1 l2 l3 = some s' → V Γ D B false 4 (QM Γ D B false s' none 0 0) 0 0 s 5 [(0, rfB B l0), (1, .int l1), (2, .int l2), (3, .int l3)] [] := by
  intro n
  induction n with
  | zero => intro s l0 l1 l2 l3 hf; rw [f_fill_b5] at hf; cases hf
  | succ n ih =>
    intro s l0 l1 l2 l3 hf
    rw [f_fill_b5] at hf
    refine r_iload_n (pc := 5) X dJ7_fill_53178_5 2 rfl ?_
    refine r_iload_n (pc := 6) X dJ7_fill_53178_6 3 rfl ?_
    refine b_icmp_ge (tgt := 20) (pc := 7) X dJ7_fill_53178_7 (by decide) hf (fun hf => ?_) (fun hf => ?_)
    · exact e_vret (pc := 20) X hr hf (Nat.le_refl _) (Nat.le_refl _) dJ7_fill_53178_20
    · refine r_aload_n (pc := 10) X dJ7_fill_53178_10 0 rfl ?_
      refine r_iload_n (pc := 11) X dJ7_fill_53178_11 2 rfl ?_
      refine r_iload_n (pc := 12) X dJ7_fill_53178_12 1 rfl ?_
      refine b_dast (pc := 13) X dJ7_fill_53178_13 hf (fun o2 j3 s4 hf => ?_)
      refine r_iinc (v := l2 + 1) (lv' := [(0, rfB B l0), (1, .int l1), (2, .int (l2 + 1)), (3, .int l3)]) (pc := 14) X dJ7_fill_53178_14 2 rfl rfl (by decide) [1, 2, 0, 3] rfl ?_
      refine r_goto (tgt := 5) (pc := 17) X dJ7_fill_53178_17 (by decide) ?_
      exact ih hf
set_option maxHeartbeats 1000000 in
theorem c_f_fill {F : Nat} {s : St} {p0 : Option Nat} {p1 : Int32} {s' : St} (hf : f_fill F s p0 p1 = some s') : CC false yJ7_fill_53178 (Cond.code yJ7_fill_53178 cJ7_fill_53178 4 none) (0) (0) (fun B => [rfB B p0, .int p1]) s (fun B => none) s' 0 0 := by
  refine CC.of (fun B => [(0, rfB B p0), (1, .int p1)]) (by decide +kernel) (fun _ => (by simp [lv_args, rfB_cat, catI, catL, catR])) (fun _ => (by simp [lg_sl, rfB_cat, catI, catL, catR])) (fun Γ D B X hr hin => ?_)
  have X : Cx Γ RJ7 cJ7_fill_53178 4 D B { frames := 0, cells := 0, slots := 0, locals := 0 } := X
  unfold f_fill at hf
  refine r_iconst (v := 0) (pc := 0) X dJ7_fill_53178_0 (by decide) ?_
  refine r_istore_n (pc := 1) (lv' := [(0, rfB B p0), (1, .int p1), (2, .int 0)]) X dJ7_fill_53178_1 (by decide) [1, 2, 0] rfl ?_
  refine r_aload_n (pc := 2) X dJ7_fill_53178_2 0 rfl ?_
  refine b_dlen (t := 1) (pc := 3) X rfl dJ7_fill_53178_3 hf (fun o1 hf => ?_)
  refine r_istore_n (pc := 4) (lv' := [(0, rfB B p0), (1, .int p1), (2, .int 0), (3, .int (Int32.ofNat o1.2.1))]) X dJ7_fill_53178_4 (by decide) [1, 2, 3, 0] rfl ?_
  exact c_f_fill_b5 X hr _ hf
/-! f_Rota_init -/
theorem dX5_init_0 : decode cX5_init 0 = .ok (.aload_n 0, 1) := by decide +kernel
theorem dX5_init_1 : decode cX5_init 1 = .ok (.invokespecial 3, 3) := by decide +kernel
theorem dX5_init_4 : decode cX5_init 4 = .ok (.aload_n 0, 1) := by decide +kernel
theorem dX5_init_5 : decode cX5_init 5 = .ok (.iconst 0, 1) := by decide +kernel
theorem dX5_init_6 : decode cX5_init 6 = .ok (.putfield 9, 3) := by decide +kernel
theorem dX5_init_9 : decode cX5_init 9 = .ok (.aload_n 0, 1) := by decide +kernel
theorem dX5_init_10 : decode cX5_init 10 = .ok (.bipush 126, 2) := by decide +kernel
theorem dX5_init_12 : decode cX5_init 12 = .ok (.newarray .int, 2) := by decide +kernel
theorem dX5_init_14 : decode cX5_init 14 = .ok (.putfield 15, 3) := by decide +kernel
theorem dX5_init_17 : decode cX5_init 17 = .ok (.aload_n 0, 1) := by decide +kernel
theorem dX5_init_18 : decode cX5_init 18 = .ok (.bipush 126, 2) := by decide +kernel
theorem dX5_init_20 : decode cX5_init 20 = .ok (.newarray .int, 2) := by decide +kernel
theorem dX5_init_22 : decode cX5_init 22 = .ok (.putfield 19, 3) := by decide +kernel
theorem dX5_init_25 : decode cX5_init 25 = .ok (.aload_n 0, 1) := by decide +kernel
theorem dX5_init_26 : decode cX5_init 26 = .ok (.bipush 126, 2) := by decide +kernel
theorem dX5_init_28 : decode cX5_init 28 = .ok (.newarray .int, 2) := by decide +kernel
theorem dX5_init_30 : decode cX5_init 30 = .ok (.putfield 22, 3) := by decide +kernel
theorem dX5_init_33 : decode cX5_init 33 = .ok (.aload_n 0, 1) := by decide +kernel
theorem dX5_init_34 : decode cX5_init 34 = .ok (.sipush 4000, 3) := by decide +kernel
theorem dX5_init_37 : decode cX5_init 37 = .ok (.newarray .int, 2) := by decide +kernel
theorem dX5_init_39 : decode cX5_init 39 = .ok (.putfield 25, 3) := by decide +kernel
theorem dX5_init_42 : decode cX5_init 42 = .ok (.aload_n 0, 1) := by decide +kernel
theorem dX5_init_43 : decode cX5_init 43 = .ok (.sipush 4000, 3) := by decide +kernel
theorem dX5_init_46 : decode cX5_init 46 = .ok (.newarray .int, 2) := by decide +kernel
theorem dX5_init_48 : decode cX5_init 48 = .ok (.putfield 28, 3) := by decide +kernel
theorem dX5_init_51 : decode cX5_init 51 = .ok (.aload_n 0, 1) := by decide +kernel
theorem dX5_init_52 : decode cX5_init 52 = .ok (.iconst 0, 1) := by decide +kernel
theorem dX5_init_53 : decode cX5_init 53 = .ok (.putfield 31, 3) := by decide +kernel
theorem dX5_init_56 : decode cX5_init 56 = .ok (.aload_n 0, 1) := by decide +kernel
theorem dX5_init_57 : decode cX5_init 57 = .ok (.getfield 15, 3) := by decide +kernel
theorem dX5_init_60 : decode cX5_init 60 = .ok (.iconst (-1), 1) := by decide +kernel
theorem dX5_init_61 : decode cX5_init 61 = .ok (.invokestatic 34, 3) := by decide +kernel
theorem dX5_init_64 : decode cX5_init 64 = .ok (.aload_n 0, 1) := by decide +kernel
theorem dX5_init_65 : decode cX5_init 65 = .ok (.getfield 22, 3) := by decide +kernel
theorem dX5_init_68 : decode cX5_init 68 = .ok (.iconst (-1), 1) := by decide +kernel
theorem dX5_init_69 : decode cX5_init 69 = .ok (.invokestatic 34, 3) := by decide +kernel
theorem dX5_init_72 : decode cX5_init 72 = .ok (.return_, 1) := by decide +kernel
def f_Rota_init (F : Nat) (s : St) (p0 : Option Nat) : Option (St) :=
  (dgo s p0 5).bind fun _ => ((dgo s p0 5).bind fun o1 => (lt (sF s o1 5 (ups o1.2.1 0 0, o1.2.2)) fun s2 => (lt (sN s2 (.inr (.inl (1, 126, fun _ => 0)))) fun s3 => ((dgo s3 p0 5).bind fun o4 => (lt (sF s3 o4 5 (o4.2.1, ups o4.2.2.1 1 (some (sz s2)), o4.2.2.2)) fun s5 => (lt (sN s5 (.inr (.inl (1, 126, fun _ => 0)))) fun s6 => ((dgo s6 p0 5).bind fun o7 => (lt (sF s6 o7 5 (o7.2.1, ups o7.2.2.1 2 (some (sz s5)), o7.2.2.2)) fun s8 => (lt (sN s8 (.inr (.inl (1, 126, fun _ => 0)))) fun s9 => ((dgo s9 p0 5).bind fun o10 => (lt (sF s9 o10 5 (o10.2.1, ups o10.2.2.1 3 (some (sz s8)), o10.2.2.2)) fun s11 => (lt (sN s11 (.inr (.inl (1, 4000, fun _ => 0)))) fun s12 => ((dgo s12 p0 5).bind fun o13 => (lt (sF s12 o13 5 (o13.2.1, ups o13.2.2.1 4 (some (sz s11)), o13.2.2.2)) fun s14 => (lt (sN s14 (.inr (.inl (1, 4000, fun _ => 0)))) fun s15 => ((dgo s15 p0 5).bind fun o16 => (lt (sF s15 o16 5 (o16.2.1, ups o16.2.2.1 5 (some (sz s14)), o16.2.2.2)) fun s17 => ((dgo s17 p0 5).bind fun o18 => (lt (sF s17 o18 5 (ups o18.2.1 6 0, o18.2.2)) fun s19 => ((dgo s19 p0 5).bind fun o20 => ((f_fill F s19 (o20.2.2.1 1) (-1)).bind fun x21 => ((dgo x21 p0 5).bind fun o22 => ((f_fill F x21 (o22.2.2.1 3) (-1)).bind fun x23 => (some x23))))))))))))))))))))))))
set_option maxHeartbeats 1000000 in
theorem c_f_Rota_init {F : Nat} {s : St} {p0 : Option Nat} {s' : St} (hf : f_Rota_init F s p0 = some s') : CC false yX5_init (Cond.code yX5_init cX5_init 1 none) (1) (23) (fun B => [rfB B p0]) s (fun B => none) s' 5 8378 := by
  refine CC.of (fun B => [(0, rfB B p0)]) (by decide +kernel) (fun _ => (by simp [lv_args, rfB_cat, catI, catL, catR])) (fun _ => (by simp [lg_sl, rfB_cat, catI, catL, catR])) (fun Γ D B X hr hin => ?_)
  have X : Cx Γ RX5 cX5_init 1 D B { frames := 1, cells := 5, slots := 8378, locals := 23 } := X
  unfold f_Rota_init at hf
  refine r_aload_n (pc := 0) X dX5_init_0 0 rfl ?_
  refine b_recv (w := false) (B := B) (D := D) rfl hf (fun a hx hrc hf => ?_)
  refine r_objInit (pc := 1) X hx w_155 w_101 w_objcode (Nat.le_of_ble_eq_true rfl) (Nat.le_of_ble_eq_true rfl) dX5_init_1 ?_
  refine r_aload_n (pc := 4) X dX5_init_4 0 rfl ?_
  refine r_iconst (v := 0) (pc := 5) X dX5_init_5 (by decide) ?_
  refine b_dputI (j := 0) (pc := 6) X rfl inT5 tyX5 tyX5_ok nmX5 (by decide) w_159 (Or.inl rfl) (tyX5_ok 0 (by decide)) rfl rfl rfl dX5_init_6 hf (fun o1 s2 hf => ?_)
  refine r_aload_n (pc := 9) X dX5_init_9 0 rfl ?_
  refine r_bipush (v := 126) (pc := 10) X dX5_init_10 (by decide) ?_
  refine r_newa (t := 1) (ty := .int) (atype := .int) (pc := 12) X w_149 rfl rfl (by decide) (by decide) (m := 126) (by decide) (by decide) (by decide) (by decide) dX5_init_12 ?_
  refine lts hf (fun s3 hf => ?_)
  refine b_dputR (j := 1) (pc := 14) X rfl inT5 tyX5 tyX5_ok nmX5 (by decide) w_161 (Or.inr ⟨rfl, hin, rfl⟩) (tyX5_ok 1 (by decide)) (Or.inr ⟨_, rfl⟩) rfl dX5_init_14 hf (fun o4 s5 hf => ?_)
  refine r_aload_n (pc := 17) X dX5_init_17 0 rfl ?_
  refine r_bipush (v := 126) (pc := 18) X dX5_init_18 (by decide) ?_
  refine r_newa (t := 1) (ty := .int) (atype := .int) (pc := 20) X w_149 rfl rfl (by decide) (by decide) (m := 126) (by decide) (by decide) (by decide) (by decide) dX5_init_20 ?_
  refine lts hf (fun s6 hf => ?_)
  refine b_dputR (j := 2) (pc := 22) X rfl inT5 tyX5 tyX5_ok nmX5 (by decide) w_162 (Or.inr ⟨rfl, hin, rfl⟩) (tyX5_ok 2 (by decide)) (Or.inr ⟨_, rfl⟩) rfl dX5_init_22 hf (fun o7 s8 hf => ?_)
  refine r_aload_n (pc := 25) X dX5_init_25 0 rfl ?_
  refine r_bipush (v := 126) (pc := 26) X dX5_init_26 (by decide) ?_
  refine r_newa (t := 1) (ty := .int) (atype := .int) (pc := 28) X w_149 rfl rfl (by decide) (by decide) (m := 126) (by decide) (by decide) (by decide) (by decide) dX5_init_28 ?_
  refine lts hf (fun s9 hf => ?_)
  refine b_dputR (j := 3) (pc := 30) X rfl inT5 tyX5 tyX5_ok nmX5 (by decide) w_163 (Or.inr ⟨rfl, hin, rfl⟩) (tyX5_ok 3 (by decide)) (Or.inr ⟨_, rfl⟩) rfl dX5_init_30 hf (fun o10 s11 hf => ?_)
  refine r_aload_n (pc := 33) X dX5_init_33 0 rfl ?_
  refine r_sipush (v := 4000) (pc := 34) X dX5_init_34 (by decide) ?_
  refine r_newa (t := 1) (ty := .int) (atype := .int) (pc := 37) X w_149 rfl rfl (by decide) (by decide) (m := 4000) (by decide) (by decide) (by decide) (by decide) dX5_init_37 ?_
  refine lts hf (fun s12 hf => ?_)
  refine b_dputR (j := 4) (pc := 39) X rfl inT5 tyX5 tyX5_ok nmX5 (by decide) w_164 (Or.inr ⟨rfl, hin, rfl⟩) (tyX5_ok 4 (by decide)) (Or.inr ⟨_, rfl⟩) rfl dX5_init_39 hf (fun o13 s14 hf => ?_)
  refine r_aload_n (pc := 42) X dX5_init_42 0 rfl ?_
  refine r_sipush (v := 4000) (pc := 43) X dX5_init_43 (by decide) ?_
  refine r_newa (t := 1) (ty := .int) (atype := .int) (pc := 46) X w_149 rfl rfl (by decide) (by decide) (m := 4000) (by decide) (by decide) (by decide) (by decide) dX5_init_46 ?_
  refine lts hf (fun s15 hf => ?_)
  refine b_dputR (j := 5) (pc := 48) X rfl inT5 tyX5 tyX5_ok nmX5 (by decide) w_165 (Or.inr ⟨rfl, hin, rfl⟩) (tyX5_ok 5 (by decide)) (Or.inr ⟨_, rfl⟩) rfl dX5_init_48 hf (fun o16 s17 hf => ?_)
  refine r_aload_n (pc := 51) X dX5_init_51 0 rfl ?_
  refine r_iconst (v := 0) (pc := 52) X dX5_init_52 (by decide) ?_
  refine b_dputI (j := 6) (pc := 53) X rfl inT5 tyX5 tyX5_ok nmX5 (by decide) w_166 (Or.inl rfl) (tyX5_ok 6 (by decide)) rfl rfl rfl dX5_init_53 hf (fun o18 s19 hf => ?_)
  refine r_aload_n (pc := 56) X dX5_init_56 0 rfl ?_
  refine b_dgetR (j := 1) (pc := 57) X rfl inT5 (by decide) w_161 rfl dX5_init_57 hf (fun o20 hf => ?_)
  refine r_iconst (v := -1) (pc := 60) X dX5_init_60 (by decide) ?_
  refine bnd hf (fun x21 h21 hf => ?_)
  refine r_callSv (As := [rfB B (o20.2.2.1 1), .int (-1)]) (st := []) (pc := 61) X (c_f_fill h21) rfl w_156 w_157 w_77 w_158 hdS_J7_fill_53178 (by decide) (by decide) (by decide) (Nat.le_of_ble_eq_true rfl) dX5_init_61 rfl ?_
  refine r_aload_n (pc := 64) X dX5_init_64 0 rfl ?_
  refine b_dgetR (j := 3) (pc := 65) X rfl inT5 (by decide) w_163 rfl dX5_init_65 hf (fun o22 hf => ?_)
  refine r_iconst (v := -1) (pc := 68) X dX5_init_68 (by decide) ?_
  refine bnd hf (fun x23 h23 hf => ?_)
  refine r_callSv (As := [rfB B (o22.2.2.1 3), .int (-1)]) (st := []) (pc := 69) X (c_f_fill h23) rfl w_156 w_157 w_77 w_158 hdS_J7_fill_53178 (by decide) (by decide) (by decide) (Nat.le_of_ble_eq_true rfl) dX5_init_69 rfl ?_
  exact e_vret (pc := 72) X hr hf (by decide) (by decide) dX5_init_72
/-! f_Alarms_init -/
theorem dX0_init_0 : decode cX0_init 0 = .ok (.aload_n 0, 1) := by decide +kernel
theorem dX0_init_1 : decode cX0_init 1 = .ok (.invokespecial 3, 3) := by decide +kernel
theorem dX0_init_4 : decode cX0_init 4 = .ok (.aload_n 0, 1) := by decide +kernel
theorem dX0_init_5 : decode cX0_init 5 = .ok (.sipush 4000, 3) := by decide +kernel
theorem dX0_init_8 : decode cX0_init 8 = .ok (.newarray .int, 2) := by decide +kernel
theorem dX0_init_10 : decode cX0_init 10 = .ok (.putfield 9, 3) := by decide +kernel
theorem dX0_init_13 : decode cX0_init 13 = .ok (.aload_n 0, 1) := by decide +kernel
theorem dX0_init_14 : decode cX0_init 14 = .ok (.sipush 4000, 3) := by decide +kernel
theorem dX0_init_17 : decode cX0_init 17 = .ok (.newarray .int, 2) := by decide +kernel
theorem dX0_init_19 : decode cX0_init 19 = .ok (.putfield 15, 3) := by decide +kernel
theorem dX0_init_22 : decode cX0_init 22 = .ok (.aload_n 0, 1) := by decide +kernel
theorem dX0_init_23 : decode cX0_init 23 = .ok (.sipush 4000, 3) := by decide +kernel
theorem dX0_init_26 : decode cX0_init 26 = .ok (.newarray .int, 2) := by decide +kernel
theorem dX0_init_28 : decode cX0_init 28 = .ok (.putfield 18, 3) := by decide +kernel
theorem dX0_init_31 : decode cX0_init 31 = .ok (.aload_n 0, 1) := by decide +kernel
theorem dX0_init_32 : decode cX0_init 32 = .ok (.sipush 4000, 3) := by decide +kernel
theorem dX0_init_35 : decode cX0_init 35 = .ok (.newarray .int, 2) := by decide +kernel
theorem dX0_init_37 : decode cX0_init 37 = .ok (.putfield 21, 3) := by decide +kernel
theorem dX0_init_40 : decode cX0_init 40 = .ok (.aload_n 0, 1) := by decide +kernel
theorem dX0_init_41 : decode cX0_init 41 = .ok (.sipush 4000, 3) := by decide +kernel
theorem dX0_init_44 : decode cX0_init 44 = .ok (.newarray .boolean, 2) := by decide +kernel
theorem dX0_init_46 : decode cX0_init 46 = .ok (.putfield 24, 3) := by decide +kernel
theorem dX0_init_49 : decode cX0_init 49 = .ok (.aload_n 0, 1) := by decide +kernel
theorem dX0_init_50 : decode cX0_init 50 = .ok (.iconst 0, 1) := by decide +kernel
theorem dX0_init_51 : decode cX0_init 51 = .ok (.putfield 28, 3) := by decide +kernel
theorem dX0_init_54 : decode cX0_init 54 = .ok (.aload_n 0, 1) := by decide +kernel
theorem dX0_init_55 : decode cX0_init 55 = .ok (.iconst 0, 1) := by decide +kernel
theorem dX0_init_56 : decode cX0_init 56 = .ok (.putfield 32, 3) := by decide +kernel
theorem dX0_init_59 : decode cX0_init 59 = .ok (.return_, 1) := by decide +kernel
def f_Alarms_init (F : Nat) (s : St) (p0 : Option Nat) : Option (St) :=
  (dgo s p0 0).bind fun _ => (lt (sN s (.inr (.inl (1, 4000, fun _ => 0)))) fun s1 => ((dgo s1 p0 0).bind fun o2 => (lt (sF s1 o2 0 (o2.2.1, ups o2.2.2.1 0 (some (sz s)), o2.2.2.2)) fun s3 => (lt (sN s3 (.inr (.inl (1, 4000, fun _ => 0)))) fun s4 => ((dgo s4 p0 0).bind fun o5 => (lt (sF s4 o5 0 (o5.2.1, ups o5.2.2.1 1 (some (sz s3)), o5.2.2.2)) fun s6 => (lt (sN s6 (.inr (.inl (1, 4000, fun _ => 0)))) fun s7 => ((dgo s7 p0 0).bind fun o8 => (lt (sF s7 o8 0 (o8.2.1, ups o8.2.2.1 2 (some (sz s6)), o8.2.2.2)) fun s9 => (lt (sN s9 (.inr (.inl (1, 4000, fun _ => 0)))) fun s10 => ((dgo s10 p0 0).bind fun o11 => (lt (sF s10 o11 0 (o11.2.1, ups o11.2.2.1 3 (some (sz s9)), o11.2.2.2)) fun s12 => (lt (sN s12 (.inr (.inl (3, 4000, fun _ => 0)))) fun s13 => ((dgo s13 p0 0).bind fun o14 => (lt (sF s13 o14 0 (o14.2.1, ups o14.2.2.1 4 (some (sz s12)), o14.2.2.2)) fun s15 => ((dgo s15 p0 0).bind fun o16 => (lt (sF s15 o16 0 (ups o16.2.1 5 0, o16.2.2)) fun s17 => ((dgo s17 p0 0).bind fun o18 => (lt (sF s17 o18 0 (ups o18.2.1 6 0, o18.2.2)) fun s19 => (some s19))))))))))))))))))))
set_option maxHeartbeats 1000000 in
theorem c_f_Alarms_init {F : Nat} {s : St} {p0 : Option Nat} {s' : St} (hf : f_Alarms_init F s p0 = some s') : CC false yX0_init (Cond.code yX0_init cX0_init 1 none) (1) (12) (fun B => [rfB B p0]) s (fun B => none) s' 5 20000 := by
  refine CC.of (fun B => [(0, rfB B p0)]) (by decide +kernel) (fun _ => (by simp [lv_args, rfB_cat, catI, catL, catR])) (fun _ => (by simp [lg_sl, rfB_cat, catI, catL, catR])) (fun Γ D B X hr hin => ?_)
  have X : Cx Γ RX0 cX0_init 1 D B { frames := 1, cells := 5, slots := 20000, locals := 12 } := X
  unfold f_Alarms_init at hf
  refine r_aload_n (pc := 0) X dX0_init_0 0 rfl ?_
  refine b_recv (w := false) (B := B) (D := D) rfl hf (fun a hx hrc hf => ?_)
  refine r_objInit (pc := 1) X hx w_188 w_101 w_objcode (Nat.le_of_ble_eq_true rfl) (Nat.le_of_ble_eq_true rfl) dX0_init_1 ?_
  refine r_aload_n (pc := 4) X dX0_init_4 0 rfl ?_
  refine r_sipush (v := 4000) (pc := 5) X dX0_init_5 (by decide) ?_
  refine r_newa (t := 1) (ty := .int) (atype := .int) (pc := 8) X w_149 rfl rfl (by decide) (by decide) (m := 4000) (by decide) (by decide) (by decide) (by decide) dX0_init_8 ?_
  refine lts hf (fun s1 hf => ?_)
  refine b_dputR (j := 0) (pc := 10) X rfl inT0 tyX0 tyX0_ok nmX0 (by decide) w_189 (Or.inr ⟨rfl, hin, rfl⟩) (tyX0_ok 0 (by decide)) (Or.inr ⟨_, rfl⟩) rfl dX0_init_10 hf (fun o2 s3 hf => ?_)
  refine r_aload_n (pc := 13) X dX0_init_13 0 rfl ?_
  refine r_sipush (v := 4000) (pc := 14) X dX0_init_14 (by decide) ?_
  refine r_newa (t := 1) (ty := .int) (atype := .int) (pc := 17) X w_149 rfl rfl (by decide) (by decide) (m := 4000) (by decide) (by decide) (by decide) (by decide) dX0_init_17 ?_
  refine lts hf (fun s4 hf => ?_)
  refine b_dputR (j := 1) (pc := 19) X rfl inT0 tyX0 tyX0_ok nmX0 (by decide) w_191 (Or.inr ⟨rfl, hin, rfl⟩) (tyX0_ok 1 (by decide)) (Or.inr ⟨_, rfl⟩) rfl dX0_init_19 hf (fun o5 s6 hf => ?_)
  refine r_aload_n (pc := 22) X dX0_init_22 0 rfl ?_
  refine r_sipush (v := 4000) (pc := 23) X dX0_init_23 (by decide) ?_
  refine r_newa (t := 1) (ty := .int) (atype := .int) (pc := 26) X w_149 rfl rfl (by decide) (by decide) (m := 4000) (by decide) (by decide) (by decide) (by decide) dX0_init_26 ?_
  refine lts hf (fun s7 hf => ?_)
  refine b_dputR (j := 2) (pc := 28) X rfl inT0 tyX0 tyX0_ok nmX0 (by decide) w_193 (Or.inr ⟨rfl, hin, rfl⟩) (tyX0_ok 2 (by decide)) (Or.inr ⟨_, rfl⟩) rfl dX0_init_28 hf (fun o8 s9 hf => ?_)
  refine r_aload_n (pc := 31) X dX0_init_31 0 rfl ?_
  refine r_sipush (v := 4000) (pc := 32) X dX0_init_32 (by decide) ?_
  refine r_newa (t := 1) (ty := .int) (atype := .int) (pc := 35) X w_149 rfl rfl (by decide) (by decide) (m := 4000) (by decide) (by decide) (by decide) (by decide) dX0_init_35 ?_
  refine lts hf (fun s10 hf => ?_)
  refine b_dputR (j := 3) (pc := 37) X rfl inT0 tyX0 tyX0_ok nmX0 (by decide) w_195 (Or.inr ⟨rfl, hin, rfl⟩) (tyX0_ok 3 (by decide)) (Or.inr ⟨_, rfl⟩) rfl dX0_init_37 hf (fun o11 s12 hf => ?_)
  refine r_aload_n (pc := 40) X dX0_init_40 0 rfl ?_
  refine r_sipush (v := 4000) (pc := 41) X dX0_init_41 (by decide) ?_
  refine r_newa (t := 3) (ty := .boolean) (atype := .boolean) (pc := 44) X w_218 rfl rfl (by decide) (by decide) (m := 4000) (by decide) (by decide) (by decide) (by decide) dX0_init_44 ?_
  refine lts hf (fun s13 hf => ?_)
  refine b_dputR (j := 4) (pc := 46) X rfl inT0 tyX0 tyX0_ok nmX0 (by decide) w_197 (Or.inr ⟨rfl, hin, rfl⟩) (tyX0_ok 4 (by decide)) (Or.inr ⟨_, rfl⟩) rfl dX0_init_46 hf (fun o14 s15 hf => ?_)
  refine r_aload_n (pc := 49) X dX0_init_49 0 rfl ?_
  refine r_iconst (v := 0) (pc := 50) X dX0_init_50 (by decide) ?_
  refine b_dputI (j := 5) (pc := 51) X rfl inT0 tyX0 tyX0_ok nmX0 (by decide) w_199 (Or.inl rfl) (tyX0_ok 5 (by decide)) rfl rfl rfl dX0_init_51 hf (fun o16 s17 hf => ?_)
  refine r_aload_n (pc := 54) X dX0_init_54 0 rfl ?_
  refine r_iconst (v := 0) (pc := 55) X dX0_init_55 (by decide) ?_
  refine b_dputI (j := 6) (pc := 56) X rfl inT0 tyX0 tyX0_ok nmX0 (by decide) w_201 (Or.inl rfl) (tyX0_ok 6 (by decide)) rfl rfl rfl dX0_init_56 hf (fun o18 s19 hf => ?_)
  exact e_vret (pc := 59) X hr hf (by decide) (by decide) dX0_init_59
/-! f_Reader_init -/
theorem dX4_init_0 : decode cX4_init 0 = .ok (.aload_n 0, 1) := by decide +kernel
theorem dX4_init_1 : decode cX4_init 1 = .ok (.invokespecial 3, 3) := by decide +kernel
theorem dX4_init_4 : decode cX4_init 4 = .ok (.aload_n 0, 1) := by decide +kernel
theorem dX4_init_5 : decode cX4_init 5 = .ok (.iconst 0, 1) := by decide +kernel
theorem dX4_init_6 : decode cX4_init 6 = .ok (.newarray .char, 2) := by decide +kernel
theorem dX4_init_8 : decode cX4_init 8 = .ok (.putfield 9, 3) := by decide +kernel
theorem dX4_init_11 : decode cX4_init 11 = .ok (.aload_n 0, 1) := by decide +kernel
theorem dX4_init_12 : decode cX4_init 12 = .ok (.iconst 0, 1) := by decide +kernel
theorem dX4_init_13 : decode cX4_init 13 = .ok (.putfield 15, 3) := by decide +kernel
theorem dX4_init_16 : decode cX4_init 16 = .ok (.aload_n 0, 1) := by decide +kernel
theorem dX4_init_17 : decode cX4_init 17 = .ok (.iconst 0, 1) := by decide +kernel
theorem dX4_init_18 : decode cX4_init 18 = .ok (.putfield 19, 3) := by decide +kernel
theorem dX4_init_21 : decode cX4_init 21 = .ok (.return_, 1) := by decide +kernel
def f_Reader_init (F : Nat) (s : St) (p0 : Option Nat) : Option (St) :=
  (dgo s p0 4).bind fun _ => (lt (sN s (.inr (.inl (0, 0, fun _ => 0)))) fun s1 => ((dgo s1 p0 4).bind fun o2 => (lt (sF s1 o2 4 (o2.2.1, ups o2.2.2.1 0 (some (sz s)), o2.2.2.2)) fun s3 => ((dgo s3 p0 4).bind fun o4 => (lt (sF s3 o4 4 (ups o4.2.1 1 0, o4.2.2)) fun s5 => ((dgo s5 p0 4).bind fun o6 => (lt (sF s5 o6 4 (ups o6.2.1 2 0, o6.2.2)) fun s7 => (some s7))))))))
set_option maxHeartbeats 1000000 in
theorem c_f_Reader_init {F : Nat} {s : St} {p0 : Option Nat} {s' : St} (hf : f_Reader_init F s p0 = some s') : CC false yX4_init (Cond.code yX4_init cX4_init 1 none) (1) (12) (fun B => [rfB B p0]) s (fun B => none) s' 1 0 := by
  refine CC.of (fun B => [(0, rfB B p0)]) (by decide +kernel) (fun _ => (by simp [lv_args, rfB_cat, catI, catL, catR])) (fun _ => (by simp [lg_sl, rfB_cat, catI, catL, catR])) (fun Γ D B X hr hin => ?_)
  have X : Cx Γ RX4 cX4_init 1 D B { frames := 1, cells := 1, slots := 0, locals := 12 } := X
  unfold f_Reader_init at hf
  refine r_aload_n (pc := 0) X dX4_init_0 0 rfl ?_
  refine b_recv (w := false) (B := B) (D := D) rfl hf (fun a hx hrc hf => ?_)
  refine r_objInit (pc := 1) X hx w_224 w_101 w_objcode (Nat.le_of_ble_eq_true rfl) (Nat.le_of_ble_eq_true rfl) dX4_init_1 ?_
  refine r_aload_n (pc := 4) X dX4_init_4 0 rfl ?_
  refine r_iconst (v := 0) (pc := 5) X dX4_init_5 (by decide) ?_
  refine r_newa (t := 0) (ty := .char) (atype := .char) (pc := 6) X w_148 rfl rfl (by decide) (by decide) (m := 0) (by decide) (by decide) (by decide) (by decide) dX4_init_6 ?_
  refine lts hf (fun s1 hf => ?_)
  refine b_dputR (j := 0) (pc := 8) X rfl inT4 tyX4 tyX4_ok nmX4 (by decide) w_225 (Or.inl rfl) (tyX4_ok 0 (by decide)) (Or.inr ⟨_, rfl⟩) rfl dX4_init_8 hf (fun o2 s3 hf => ?_)
  refine r_aload_n (pc := 11) X dX4_init_11 0 rfl ?_
  refine r_iconst (v := 0) (pc := 12) X dX4_init_12 (by decide) ?_
  refine b_dputI (j := 1) (pc := 13) X rfl inT4 tyX4 tyX4_ok nmX4 (by decide) w_226 (Or.inl rfl) (tyX4_ok 1 (by decide)) rfl rfl rfl dX4_init_13 hf (fun o4 s5 hf => ?_)
  refine r_aload_n (pc := 16) X dX4_init_16 0 rfl ?_
  refine r_iconst (v := 0) (pc := 17) X dX4_init_17 (by decide) ?_
  refine b_dputI (j := 2) (pc := 18) X rfl inT4 tyX4 tyX4_ok nmX4 (by decide) w_227 (Or.inl rfl) (tyX4_ok 2 (by decide)) rfl rfl rfl dX4_init_18 hf (fun o6 s7 hf => ?_)
  exact e_vret (pc := 21) X hr hf (by decide) (by decide) dX4_init_21
/-! f_Coder_init -/
theorem dX1_init_0 : decode cX1_init 0 = .ok (.aload_n 0, 1) := by decide +kernel
theorem dX1_init_1 : decode cX1_init 1 = .ok (.invokespecial 3, 3) := by decide +kernel
theorem dX1_init_4 : decode cX1_init 4 = .ok (.aload_n 0, 1) := by decide +kernel
theorem dX1_init_5 : decode cX1_init 5 = .ok (.bipush 80, 2) := by decide +kernel
theorem dX1_init_7 : decode cX1_init 7 = .ok (.newarray .int, 2) := by decide +kernel
theorem dX1_init_9 : decode cX1_init 9 = .ok (.putfield 9, 3) := by decide +kernel
theorem dX1_init_12 : decode cX1_init 12 = .ok (.aload_n 0, 1) := by decide +kernel
theorem dX1_init_13 : decode cX1_init 13 = .ok (.iconst 0, 1) := by decide +kernel
theorem dX1_init_14 : decode cX1_init 14 = .ok (.putfield 15, 3) := by decide +kernel
theorem dX1_init_17 : decode cX1_init 17 = .ok (.aload_n 0, 1) := by decide +kernel
theorem dX1_init_18 : decode cX1_init 18 = .ok (.bipush 40, 2) := by decide +kernel
theorem dX1_init_20 : decode cX1_init 20 = .ok (.newarray .int, 2) := by decide +kernel
theorem dX1_init_22 : decode cX1_init 22 = .ok (.putfield 19, 3) := by decide +kernel
theorem dX1_init_25 : decode cX1_init 25 = .ok (.aload_n 0, 1) := by decide +kernel
theorem dX1_init_26 : decode cX1_init 26 = .ok (.bipush 40, 2) := by decide +kernel
theorem dX1_init_28 : decode cX1_init 28 = .ok (.newarray .int, 2) := by decide +kernel
theorem dX1_init_30 : decode cX1_init 30 = .ok (.putfield 22, 3) := by decide +kernel
theorem dX1_init_33 : decode cX1_init 33 = .ok (.aload_n 0, 1) := by decide +kernel
theorem dX1_init_34 : decode cX1_init 34 = .ok (.iconst 0, 1) := by decide +kernel
theorem dX1_init_35 : decode cX1_init 35 = .ok (.putfield 25, 3) := by decide +kernel
theorem dX1_init_38 : decode cX1_init 38 = .ok (.aload_n 0, 1) := by decide +kernel
theorem dX1_init_39 : decode cX1_init 39 = .ok (.iconst 0, 1) := by decide +kernel
theorem dX1_init_40 : decode cX1_init 40 = .ok (.putfield 28, 3) := by decide +kernel
theorem dX1_init_43 : decode cX1_init 43 = .ok (.return_, 1) := by decide +kernel
def f_Coder_init (F : Nat) (s : St) (p0 : Option Nat) : Option (St) :=
  (dgo s p0 1).bind fun _ => (lt (sN s (.inr (.inl (1, 80, fun _ => 0)))) fun s1 => ((dgo s1 p0 1).bind fun o2 => (lt (sF s1 o2 1 (o2.2.1, ups o2.2.2.1 0 (some (sz s)), o2.2.2.2)) fun s3 => ((dgo s3 p0 1).bind fun o4 => (lt (sF s3 o4 1 (ups o4.2.1 1 0, o4.2.2)) fun s5 => (lt (sN s5 (.inr (.inl (1, 40, fun _ => 0)))) fun s6 => ((dgo s6 p0 1).bind fun o7 => (lt (sF s6 o7 1 (o7.2.1, ups o7.2.2.1 2 (some (sz s5)), o7.2.2.2)) fun s8 => (lt (sN s8 (.inr (.inl (1, 40, fun _ => 0)))) fun s9 => ((dgo s9 p0 1).bind fun o10 => (lt (sF s9 o10 1 (o10.2.1, ups o10.2.2.1 3 (some (sz s8)), o10.2.2.2)) fun s11 => ((dgo s11 p0 1).bind fun o12 => (lt (sF s11 o12 1 (ups o12.2.1 4 0, o12.2.2)) fun s13 => ((dgo s13 p0 1).bind fun o14 => (lt (sF s13 o14 1 (ups o14.2.1 5 0, o14.2.2)) fun s15 => (some s15))))))))))))))))
set_option maxHeartbeats 1000000 in
theorem c_f_Coder_init {F : Nat} {s : St} {p0 : Option Nat} {s' : St} (hf : f_Coder_init F s p0 = some s') : CC false yX1_init (Cond.code yX1_init cX1_init 1 none) (1) (12) (fun B => [rfB B p0]) s (fun B => none) s' 3 160 := by
  refine CC.of (fun B => [(0, rfB B p0)]) (by decide +kernel) (fun _ => (by simp [lv_args, rfB_cat, catI, catL, catR])) (fun _ => (by simp [lg_sl, rfB_cat, catI, catL, catR])) (fun Γ D B X hr hin => ?_)
  have X : Cx Γ RX1 cX1_init 1 D B { frames := 1, cells := 3, slots := 160, locals := 12 } := X
  unfold f_Coder_init at hf
  refine r_aload_n (pc := 0) X dX1_init_0 0 rfl ?_
  refine b_recv (w := false) (B := B) (D := D) rfl hf (fun a hx hrc hf => ?_)
  refine r_objInit (pc := 1) X hx w_240 w_101 w_objcode (Nat.le_of_ble_eq_true rfl) (Nat.le_of_ble_eq_true rfl) dX1_init_1 ?_
  refine r_aload_n (pc := 4) X dX1_init_4 0 rfl ?_
  refine r_bipush (v := 80) (pc := 5) X dX1_init_5 (by decide) ?_
  refine r_newa (t := 1) (ty := .int) (atype := .int) (pc := 7) X w_149 rfl rfl (by decide) (by decide) (m := 80) (by decide) (by decide) (by decide) (by decide) dX1_init_7 ?_
  refine lts hf (fun s1 hf => ?_)
  refine b_dputR (j := 0) (pc := 9) X rfl inT1 tyX1 tyX1_ok nmX1 (by decide) w_241 (Or.inr ⟨rfl, hin, rfl⟩) (tyX1_ok 0 (by decide)) (Or.inr ⟨_, rfl⟩) rfl dX1_init_9 hf (fun o2 s3 hf => ?_)
  refine r_aload_n (pc := 12) X dX1_init_12 0 rfl ?_
  refine r_iconst (v := 0) (pc := 13) X dX1_init_13 (by decide) ?_
  refine b_dputI (j := 1) (pc := 14) X rfl inT1 tyX1 tyX1_ok nmX1 (by decide) w_243 (Or.inl rfl) (tyX1_ok 1 (by decide)) rfl rfl rfl dX1_init_14 hf (fun o4 s5 hf => ?_)
  refine r_aload_n (pc := 17) X dX1_init_17 0 rfl ?_
  refine r_bipush (v := 40) (pc := 18) X dX1_init_18 (by decide) ?_
  refine r_newa (t := 1) (ty := .int) (atype := .int) (pc := 20) X w_149 rfl rfl (by decide) (by decide) (m := 40) (by decide) (by decide) (by decide) (by decide) dX1_init_20 ?_
  refine lts hf (fun s6 hf => ?_)
  refine b_dputR (j := 2) (pc := 22) X rfl inT1 tyX1 tyX1_ok nmX1 (by decide) w_245 (Or.inr ⟨rfl, hin, rfl⟩) (tyX1_ok 2 (by decide)) (Or.inr ⟨_, rfl⟩) rfl dX1_init_22 hf (fun o7 s8 hf => ?_)
  refine r_aload_n (pc := 25) X dX1_init_25 0 rfl ?_
  refine r_bipush (v := 40) (pc := 26) X dX1_init_26 (by decide) ?_
  refine r_newa (t := 1) (ty := .int) (atype := .int) (pc := 28) X w_149 rfl rfl (by decide) (by decide) (m := 40) (by decide) (by decide) (by decide) (by decide) dX1_init_28 ?_
  refine lts hf (fun s9 hf => ?_)
  refine b_dputR (j := 3) (pc := 30) X rfl inT1 tyX1 tyX1_ok nmX1 (by decide) w_246 (Or.inr ⟨rfl, hin, rfl⟩) (tyX1_ok 3 (by decide)) (Or.inr ⟨_, rfl⟩) rfl dX1_init_30 hf (fun o10 s11 hf => ?_)
  refine r_aload_n (pc := 33) X dX1_init_33 0 rfl ?_
  refine r_iconst (v := 0) (pc := 34) X dX1_init_34 (by decide) ?_
  refine b_dputI (j := 4) (pc := 35) X rfl inT1 tyX1 tyX1_ok nmX1 (by decide) w_247 (Or.inl rfl) (tyX1_ok 4 (by decide)) rfl rfl rfl dX1_init_35 hf (fun o12 s13 hf => ?_)
  refine r_aload_n (pc := 38) X dX1_init_38 0 rfl ?_
  refine r_iconst (v := 0) (pc := 39) X dX1_init_39 (by decide) ?_
  refine b_dputI (j := 5) (pc := 40) X rfl inT1 tyX1 tyX1_ok nmX1 (by decide) w_248 (Or.inl rfl) (tyX1_ok 5 (by decide)) rfl rfl rfl dX1_init_40 hf (fun o14 s15 hf => ?_)
  exact e_vret (pc := 43) X hr hf (by decide) (by decide) dX1_init_43
/-! f_Tally_init -/
theorem dX8_init_0 : decode cX8_init 0 = .ok (.aload_n 0, 1) := by decide +kernel
theorem dX8_init_1 : decode cX8_init 1 = .ok (.invokespecial 3, 3) := by decide +kernel
theorem dX8_init_4 : decode cX8_init 4 = .ok (.aload_n 0, 1) := by decide +kernel
theorem dX8_init_5 : decode cX8_init 5 = .ok (.bipush 100, 2) := by decide +kernel
theorem dX8_init_7 : decode cX8_init 7 = .ok (.newarray .int, 2) := by decide +kernel
theorem dX8_init_9 : decode cX8_init 9 = .ok (.putfield 9, 3) := by decide +kernel
theorem dX8_init_12 : decode cX8_init 12 = .ok (.aload_n 0, 1) := by decide +kernel
theorem dX8_init_13 : decode cX8_init 13 = .ok (.iconst 0, 1) := by decide +kernel
theorem dX8_init_14 : decode cX8_init 14 = .ok (.putfield 15, 3) := by decide +kernel
theorem dX8_init_17 : decode cX8_init 17 = .ok (.aload_n 0, 1) := by decide +kernel
theorem dX8_init_18 : decode cX8_init 18 = .ok (.lconst 0, 1) := by decide +kernel
theorem dX8_init_19 : decode cX8_init 19 = .ok (.putfield 19, 3) := by decide +kernel
theorem dX8_init_22 : decode cX8_init 22 = .ok (.aload_n 0, 1) := by decide +kernel
theorem dX8_init_23 : decode cX8_init 23 = .ok (.iconst 0, 1) := by decide +kernel
theorem dX8_init_24 : decode cX8_init 24 = .ok (.putfield 23, 3) := by decide +kernel
theorem dX8_init_27 : decode cX8_init 27 = .ok (.aload_n 0, 1) := by decide +kernel
theorem dX8_init_28 : decode cX8_init 28 = .ok (.iconst 0, 1) := by decide +kernel
theorem dX8_init_29 : decode cX8_init 29 = .ok (.putfield 26, 3) := by decide +kernel
theorem dX8_init_32 : decode cX8_init 32 = .ok (.aload_n 0, 1) := by decide +kernel
theorem dX8_init_33 : decode cX8_init 33 = .ok (.iconst 0, 1) := by decide +kernel
theorem dX8_init_34 : decode cX8_init 34 = .ok (.putfield 29, 3) := by decide +kernel
theorem dX8_init_37 : decode cX8_init 37 = .ok (.aload_n 0, 1) := by decide +kernel
theorem dX8_init_38 : decode cX8_init 38 = .ok (.sipush 2001, 3) := by decide +kernel
theorem dX8_init_41 : decode cX8_init 41 = .ok (.newarray .int, 2) := by decide +kernel
theorem dX8_init_43 : decode cX8_init 43 = .ok (.putfield 32, 3) := by decide +kernel
theorem dX8_init_46 : decode cX8_init 46 = .ok (.return_, 1) := by decide +kernel
def f_Tally_init (F : Nat) (s : St) (p0 : Option Nat) : Option (St) :=
  (dgo s p0 8).bind fun _ => (lt (sN s (.inr (.inl (1, 100, fun _ => 0)))) fun s1 => ((dgo s1 p0 8).bind fun o2 => (lt (sF s1 o2 8 (o2.2.1, ups o2.2.2.1 0 (some (sz s)), o2.2.2.2)) fun s3 => ((dgo s3 p0 8).bind fun o4 => (lt (sF s3 o4 8 (ups o4.2.1 1 0, o4.2.2)) fun s5 => ((dgo s5 p0 8).bind fun o6 => (lt (sF s5 o6 8 (o6.2.1, o6.2.2.1, ups o6.2.2.2 2 0)) fun s7 => ((dgo s7 p0 8).bind fun o8 => (lt (sF s7 o8 8 (ups o8.2.1 3 0, o8.2.2)) fun s9 => ((dgo s9 p0 8).bind fun o10 => (lt (sF s9 o10 8 (ups o10.2.1 4 0, o10.2.2)) fun s11 => ((dgo s11 p0 8).bind fun o12 => (lt (sF s11 o12 8 (ups o12.2.1 5 0, o12.2.2)) fun s13 => (lt (sN s13 (.inr (.inl (1, 2001, fun _ => 0)))) fun s14 => ((dgo s14 p0 8).bind fun o15 => (lt (sF s14 o15 8 (o15.2.1, ups o15.2.2.1 6 (some (sz s13)), o15.2.2.2)) fun s16 => (some s16)))))))))))))))))
set_option maxHeartbeats 1000000 in
theorem c_f_Tally_init {F : Nat} {s : St} {p0 : Option Nat} {s' : St} (hf : f_Tally_init F s p0 = some s') : CC false yX8_init (Cond.code yX8_init cX8_init 1 none) (1) (12) (fun B => [rfB B p0]) s (fun B => none) s' 2 2101 := by
  refine CC.of (fun B => [(0, rfB B p0)]) (by decide +kernel) (fun _ => (by simp [lv_args, rfB_cat, catI, catL, catR])) (fun _ => (by simp [lg_sl, rfB_cat, catI, catL, catR])) (fun Γ D B X hr hin => ?_)
  have X : Cx Γ RX8 cX8_init 1 D B { frames := 1, cells := 2, slots := 2101, locals := 12 } := X
  unfold f_Tally_init at hf
  refine r_aload_n (pc := 0) X dX8_init_0 0 rfl ?_
  refine b_recv (w := false) (B := B) (D := D) rfl hf (fun a hx hrc hf => ?_)
  refine r_objInit (pc := 1) X hx w_273 w_101 w_objcode (Nat.le_of_ble_eq_true rfl) (Nat.le_of_ble_eq_true rfl) dX8_init_1 ?_
  refine r_aload_n (pc := 4) X dX8_init_4 0 rfl ?_
  refine r_bipush (v := 100) (pc := 5) X dX8_init_5 (by decide) ?_
  refine r_newa (t := 1) (ty := .int) (atype := .int) (pc := 7) X w_149 rfl rfl (by decide) (by decide) (m := 100) (by decide) (by decide) (by decide) (by decide) dX8_init_7 ?_
  refine lts hf (fun s1 hf => ?_)
  refine b_dputR (j := 0) (pc := 9) X rfl inT8 tyX8 tyX8_ok nmX8 (by decide) w_274 (Or.inr ⟨rfl, hin, rfl⟩) (tyX8_ok 0 (by decide)) (Or.inr ⟨_, rfl⟩) rfl dX8_init_9 hf (fun o2 s3 hf => ?_)
  refine r_aload_n (pc := 12) X dX8_init_12 0 rfl ?_
  refine r_iconst (v := 0) (pc := 13) X dX8_init_13 (by decide) ?_
  refine b_dputI (j := 1) (pc := 14) X rfl inT8 tyX8 tyX8_ok nmX8 (by decide) w_275 (Or.inl rfl) (tyX8_ok 1 (by decide)) rfl rfl rfl dX8_init_14 hf (fun o4 s5 hf => ?_)
  refine r_aload_n (pc := 17) X dX8_init_17 0 rfl ?_
  refine r_lconst (v := 0) (pc := 18) X dX8_init_18 (by decide) ?_
  refine b_dputL (j := 2) (pc := 19) X rfl inT8 tyX8 tyX8_ok nmX8 (by decide) w_276 (Or.inl rfl) (tyX8_ok 2 (by decide)) rfl rfl rfl dX8_init_19 hf (fun o6 s7 hf => ?_)
  refine r_aload_n (pc := 22) X dX8_init_22 0 rfl ?_
  refine r_iconst (v := 0) (pc := 23) X dX8_init_23 (by decide) ?_
  refine b_dputI (j := 3) (pc := 24) X rfl inT8 tyX8 tyX8_ok nmX8 (by decide) w_277 (Or.inl rfl) (tyX8_ok 3 (by decide)) rfl rfl rfl dX8_init_24 hf (fun o8 s9 hf => ?_)
  refine r_aload_n (pc := 27) X dX8_init_27 0 rfl ?_
  refine r_iconst (v := 0) (pc := 28) X dX8_init_28 (by decide) ?_
  refine b_dputI (j := 4) (pc := 29) X rfl inT8 tyX8 tyX8_ok nmX8 (by decide) w_278 (Or.inl rfl) (tyX8_ok 4 (by decide)) rfl rfl rfl dX8_init_29 hf (fun o10 s11 hf => ?_)
  refine r_aload_n (pc := 32) X dX8_init_32 0 rfl ?_
  refine r_iconst (v := 0) (pc := 33) X dX8_init_33 (by decide) ?_
  refine b_dputI (j := 5) (pc := 34) X rfl inT8 tyX8 tyX8_ok nmX8 (by decide) w_279 (Or.inl rfl) (tyX8_ok 5 (by decide)) rfl rfl rfl dX8_init_34 hf (fun o12 s13 hf => ?_)
  refine r_aload_n (pc := 37) X dX8_init_37 0 rfl ?_
  refine r_sipush (v := 2001) (pc := 38) X dX8_init_38 (by decide) ?_
  refine r_newa (t := 1) (ty := .int) (atype := .int) (pc := 41) X w_149 rfl rfl (by decide) (by decide) (m := 2001) (by decide) (by decide) (by decide) (by decide) dX8_init_41 ?_
  refine lts hf (fun s14 hf => ?_)
  refine b_dputR (j := 6) (pc := 43) X rfl inT8 tyX8 tyX8_ok nmX8 (by decide) w_280 (Or.inr ⟨rfl, hin, rfl⟩) (tyX8_ok 6 (by decide)) (Or.inr ⟨_, rfl⟩) rfl dX8_init_43 hf (fun o15 s16 hf => ?_)
  exact e_vret (pc := 46) X hr hf (by decide) (by decide) dX8_init_46
/-! f_Walker_init -/
theorem dX9_init_0 : decode cX9_init 0 = .ok (.aload_n 0, 1) := by decide +kernel
theorem dX9_init_1 : decode cX9_init 1 = .ok (.invokespecial 3, 3) := by decide +kernel
theorem dX9_init_4 : decode cX9_init 4 = .ok (.aload_n 0, 1) := by decide +kernel
theorem dX9_init_5 : decode cX9_init 5 = .ok (.new 9, 3) := by decide +kernel
theorem dX9_init_8 : decode cX9_init 8 = .ok (.dup, 1) := by decide +kernel
theorem dX9_init_9 : decode cX9_init 9 = .ok (.invokespecial 11, 3) := by decide +kernel
theorem dX9_init_12 : decode cX9_init 12 = .ok (.putfield 12, 3) := by decide +kernel
theorem dX9_init_15 : decode cX9_init 15 = .ok (.return_, 1) := by decide +kernel
def f_Walker_init (F : Nat) (s : St) (p0 : Option Nat) : Option (St) :=
  (dgo s p0 9).bind fun _ => (lt (sN s (.inl (8, fun _ => 0, fun _ => none, fun _ => 0))) fun s1 => ((dgo s1 (some (sz s)) 8).bind fun _ => ((f_Tally_init F s1 (some (sz s))).bind fun x2 => ((dgo x2 p0 9).bind fun o3 => (lt (sF x2 o3 9 (o3.2.1, ups o3.2.2.1 0 (some (sz s)), o3.2.2.2)) fun s4 => (some s4))))))
set_option maxHeartbeats 1000000 in
theorem c_f_Walker_init {F : Nat} {s : St} {p0 : Option Nat} {s' : St} (hf : f_Walker_init F s p0 = some s') : CC false yX9_init (Cond.code yX9_init cX9_init 1 none) (2) (32) (fun B => [rfB B p0]) s (fun B => none) s' 3 2108 := by
  refine CC.of (fun B => [(0, rfB B p0)]) (by decide +kernel) (fun _ => (by simp [lv_args, rfB_cat, catI, catL, catR])) (fun _ => (by simp [lg_sl, rfB_cat, catI, catL, catR])) (fun Γ D B X hr hin => ?_)
  have X : Cx Γ RX9 cX9_init 1 D B { frames := 2, cells := 3, slots := 2108, locals := 32 } := X
  unfold f_Walker_init at hf
  refine r_aload_n (pc := 0) X dX9_init_0 0 rfl ?_
  refine b_recv (w := false) (B := B) (D := D) rfl hf (fun a hx hrc hf => ?_)
  refine r_objInit (pc := 1) X hx w_267 w_101 w_objcode (Nat.le_of_ble_eq_true rfl) (Nat.le_of_ble_eq_true rfl) dX9_init_1 ?_
  refine r_aload_n (pc := 4) X dX9_init_4 0 rfl ?_
  refine r_new (pc := 5) X rfl inT8 tyX8 tyX8_ok w_268 w_269 w_82 rfl hdv8 (by decide) (by decide) dX9_init_5 ?_
  refine lts hf (fun s1 hf => ?_)
  refine r_dup (pc := 8) X dX9_init_8 rfl ?_
  refine b_recv (w := false) (B := B) (D := D) rfl hf (fun a hx hrc hf => ?_)
  refine bnd hf (fun x2 h2 hf => ?_)
  refine r_callIN (mc := 2) (ms := 2101) (As := []) (st := [rfB B (some (sz s)), rfB B p0]) (pc := 9) X (c_f_Tally_init h2) (by rw [hx]; rfl) wn_270 w_271 w_82 w_272 rfl hdS_X8_init (by decide) (by decide) (by decide) (by simp [rfB_cat, catI, catL, catR]) dX9_init_9 (by rw [hx]; rfl) ?_
  refine b_dputR (j := 0) (pc := 12) X rfl inT9 tyX9 tyX9_ok nmX9 (by decide) w_296 (Or.inr ⟨rfl, hin, rfl⟩) (tyX9_ok 0 (by decide)) (Or.inl ⟨_, rfl⟩) rfl dX9_init_12 hf (fun o3 s4 hf => ?_)
  exact e_vret (pc := 15) X hr hf (by decide) (by decide) dX9_init_15
/-! f_Runner_init -/
theorem dX7_init_0 : decode cX7_init 0 = .ok (.aload_n 0, 1) := by decide +kernel
theorem dX7_init_1 : decode cX7_init 1 = .ok (.invokespecial 3, 3) := by decide +kernel
theorem dX7_init_4 : decode cX7_init 4 = .ok (.aload_n 0, 1) := by decide +kernel
theorem dX7_init_5 : decode cX7_init 5 = .ok (.new 9, 3) := by decide +kernel
theorem dX7_init_8 : decode cX7_init 8 = .ok (.dup, 1) := by decide +kernel
theorem dX7_init_9 : decode cX7_init 9 = .ok (.invokespecial 11, 3) := by decide +kernel
theorem dX7_init_12 : decode cX7_init 12 = .ok (.putfield 12, 3) := by decide +kernel
theorem dX7_init_15 : decode cX7_init 15 = .ok (.aload_n 0, 1) := by decide +kernel
theorem dX7_init_16 : decode cX7_init 16 = .ok (.bipush 40, 2) := by decide +kernel
theorem dX7_init_18 : decode cX7_init 18 = .ok (.newarray .long, 2) := by decide +kernel
theorem dX7_init_20 : decode cX7_init 20 = .ok (.putfield 18, 3) := by decide +kernel
theorem dX7_init_23 : decode cX7_init 23 = .ok (.aload_n 0, 1) := by decide +kernel
theorem dX7_init_24 : decode cX7_init 24 = .ok (.iconst 0, 1) := by decide +kernel
theorem dX7_init_25 : decode cX7_init 25 = .ok (.putfield 22, 3) := by decide +kernel
theorem dX7_init_28 : decode cX7_init 28 = .ok (.return_, 1) := by decide +kernel
def f_Runner_init (F : Nat) (s : St) (p0 : Option Nat) : Option (St) :=
  (dgo s p0 7).bind fun _ => (lt (sN s (.inl (8, fun _ => 0, fun _ => none, fun _ => 0))) fun s1 => ((dgo s1 (some (sz s)) 8).bind fun _ => ((f_Tally_init F s1 (some (sz s))).bind fun x2 => ((dgo x2 p0 7).bind fun o3 => (lt (sF x2 o3 7 (o3.2.1, ups o3.2.2.1 0 (some (sz s)), o3.2.2.2)) fun s4 => (lt (sN s4 (.inr (.inr (.inl (40, fun _ => 0))))) fun s5 => ((dgo s5 p0 7).bind fun o6 => (lt (sF s5 o6 7 (o6.2.1, ups o6.2.2.1 1 (some (sz s4)), o6.2.2.2)) fun s7 => ((dgo s7 p0 7).bind fun o8 => (lt (sF s7 o8 7 (ups o8.2.1 2 0, o8.2.2)) fun s9 => (some s9)))))))))))
set_option maxHeartbeats 1000000 in
theorem c_f_Runner_init {F : Nat} {s : St} {p0 : Option Nat} {s' : St} (hf : f_Runner_init F s p0 = some s') : CC false yX7_init (Cond.code yX7_init cX7_init 1 none) (2) (32) (fun B => [rfB B p0]) s (fun B => none) s' 4 2148 := by
  refine CC.of (fun B => [(0, rfB B p0)]) (by decide +kernel) (fun _ => (by simp [lv_args, rfB_cat, catI, catL, catR])) (fun _ => (by simp [lg_sl, rfB_cat, catI, catL, catR])) (fun Γ D B X hr hin => ?_)
  have X : Cx Γ RX7 cX7_init 1 D B { frames := 2, cells := 4, slots := 2148, locals := 32 } := X
  unfold f_Runner_init at hf
  refine r_aload_n (pc := 0) X dX7_init_0 0 rfl ?_
  refine b_recv (w := false) (B := B) (D := D) rfl hf (fun a hx hrc hf => ?_)
  refine r_objInit (pc := 1) X hx w_305 w_101 w_objcode (Nat.le_of_ble_eq_true rfl) (Nat.le_of_ble_eq_true rfl) dX7_init_1 ?_
  refine r_aload_n (pc := 4) X dX7_init_4 0 rfl ?_
  refine r_new (pc := 5) X rfl inT8 tyX8 tyX8_ok w_306 w_269 w_82 rfl hdv8 (by decide) (by decide) dX7_init_5 ?_
  refine lts hf (fun s1 hf => ?_)
  refine r_dup (pc := 8) X dX7_init_8 rfl ?_
  refine b_recv (w := false) (B := B) (D := D) rfl hf (fun a hx hrc hf => ?_)
  refine bnd hf (fun x2 h2 hf => ?_)
  refine r_callIN (mc := 2) (ms := 2101) (As := []) (st := [rfB B (some (sz s)), rfB B p0]) (pc := 9) X (c_f_Tally_init h2) (by rw [hx]; rfl) wn_307 w_271 w_82 w_272 rfl hdS_X8_init (by decide) (by decide) (by decide) (by simp [rfB_cat, catI, catL, catR]) dX7_init_9 (by rw [hx]; rfl) ?_
  refine b_dputR (j := 0) (pc := 12) X rfl inT7 tyX7 tyX7_ok nmX7 (by decide) w_308 (Or.inr ⟨rfl, hin, rfl⟩) (tyX7_ok 0 (by decide)) (Or.inl ⟨_, rfl⟩) rfl dX7_init_12 hf (fun o3 s4 hf => ?_)
  refine r_aload_n (pc := 15) X dX7_init_15 0 rfl ?_
  refine r_bipush (v := 40) (pc := 16) X dX7_init_16 (by decide) ?_
  refine r_newaL (pc := 18) X w_318 (by decide) (m := 40) (by decide) (by decide) (by decide) (by decide) dX7_init_18 ?_
  refine lts hf (fun s5 hf => ?_)
  refine b_dputR (j := 1) (pc := 20) X rfl inT7 tyX7 tyX7_ok nmX7 (by decide) w_309 (Or.inr ⟨rfl, hin, rfl⟩) (tyX7_ok 1 (by decide)) (Or.inr ⟨_, rfl⟩) rfl dX7_init_20 hf (fun o6 s7 hf => ?_)
  refine r_aload_n (pc := 23) X dX7_init_23 0 rfl ?_
  refine r_iconst (v := 0) (pc := 24) X dX7_init_24 (by decide) ?_
  refine b_dputI (j := 2) (pc := 25) X rfl inT7 tyX7 tyX7_ok nmX7 (by decide) w_310 (Or.inl rfl) (tyX7_ok 2 (by decide)) rfl rfl rfl dX7_init_25 hf (fun o8 s9 hf => ?_)
  exact e_vret (pc := 28) X hr hf (by decide) (by decide) dX7_init_28
/-! f_P_init -/
theorem dX10_init_0 : decode cX10_init 0 = .ok (.aload_n 0, 1) := by decide +kernel
theorem dX10_init_1 : decode cX10_init 1 = .ok (.invokespecial 3, 3) := by decide +kernel
theorem dX10_init_4 : decode cX10_init 4 = .ok (.aload_n 0, 1) := by decide +kernel
theorem dX10_init_5 : decode cX10_init 5 = .ok (.bipush 40, 2) := by decide +kernel
theorem dX10_init_7 : decode cX10_init 7 = .ok (.newarray .char, 2) := by decide +kernel
theorem dX10_init_9 : decode cX10_init 9 = .ok (.putfield 9, 3) := by decide +kernel
theorem dX10_init_12 : decode cX10_init 12 = .ok (.aload_n 0, 1) := by decide +kernel
theorem dX10_init_13 : decode cX10_init 13 = .ok (.iconst 0, 1) := by decide +kernel
theorem dX10_init_14 : decode cX10_init 14 = .ok (.putfield 13, 3) := by decide +kernel
theorem dX10_init_17 : decode cX10_init 17 = .ok (.aload_n 0, 1) := by decide +kernel
theorem dX10_init_18 : decode cX10_init 18 = .ok (.iconst 0, 1) := by decide +kernel
theorem dX10_init_19 : decode cX10_init 19 = .ok (.putfield 17, 3) := by decide +kernel
theorem dX10_init_22 : decode cX10_init 22 = .ok (.aload_n 0, 1) := by decide +kernel
theorem dX10_init_23 : decode cX10_init 23 = .ok (.iconst 4, 1) := by decide +kernel
theorem dX10_init_24 : decode cX10_init 24 = .ok (.anewarray 20, 3) := by decide +kernel
theorem dX10_init_27 : decode cX10_init 27 = .ok (.putfield 22, 3) := by decide +kernel
theorem dX10_init_30 : decode cX10_init 30 = .ok (.aload_n 0, 1) := by decide +kernel
theorem dX10_init_31 : decode cX10_init 31 = .ok (.iconst 0, 1) := by decide +kernel
theorem dX10_init_32 : decode cX10_init 32 = .ok (.putfield 26, 3) := by decide +kernel
theorem dX10_init_35 : decode cX10_init 35 = .ok (.aload_n 0, 1) := by decide +kernel
theorem dX10_init_36 : decode cX10_init 36 = .ok (.new 29, 3) := by decide +kernel
theorem dX10_init_39 : decode cX10_init 39 = .ok (.dup, 1) := by decide +kernel
theorem dX10_init_40 : decode cX10_init 40 = .ok (.invokespecial 31, 3) := by decide +kernel
theorem dX10_init_43 : decode cX10_init 43 = .ok (.putfield 32, 3) := by decide +kernel
theorem dX10_init_46 : decode cX10_init 46 = .ok (.aload_n 0, 1) := by decide +kernel
theorem dX10_init_47 : decode cX10_init 47 = .ok (.new 36, 3) := by decide +kernel
theorem dX10_init_50 : decode cX10_init 50 = .ok (.dup, 1) := by decide +kernel
theorem dX10_init_51 : decode cX10_init 51 = .ok (.invokespecial 38, 3) := by decide +kernel
theorem dX10_init_54 : decode cX10_init 54 = .ok (.putfield 39, 3) := by decide +kernel
theorem dX10_init_57 : decode cX10_init 57 = .ok (.aload_n 0, 1) := by decide +kernel
theorem dX10_init_58 : decode cX10_init 58 = .ok (.new 43, 3) := by decide +kernel
theorem dX10_init_61 : decode cX10_init 61 = .ok (.dup, 1) := by decide +kernel
theorem dX10_init_62 : decode cX10_init 62 = .ok (.invokespecial 45, 3) := by decide +kernel
theorem dX10_init_65 : decode cX10_init 65 = .ok (.putfield 46, 3) := by decide +kernel
theorem dX10_init_68 : decode cX10_init 68 = .ok (.aload_n 0, 1) := by decide +kernel
theorem dX10_init_69 : decode cX10_init 69 = .ok (.new 50, 3) := by decide +kernel
theorem dX10_init_72 : decode cX10_init 72 = .ok (.dup, 1) := by decide +kernel
theorem dX10_init_73 : decode cX10_init 73 = .ok (.invokespecial 52, 3) := by decide +kernel
theorem dX10_init_76 : decode cX10_init 76 = .ok (.putfield 53, 3) := by decide +kernel
theorem dX10_init_79 : decode cX10_init 79 = .ok (.aload_n 0, 1) := by decide +kernel
theorem dX10_init_80 : decode cX10_init 80 = .ok (.new 57, 3) := by decide +kernel
theorem dX10_init_83 : decode cX10_init 83 = .ok (.dup, 1) := by decide +kernel
theorem dX10_init_84 : decode cX10_init 84 = .ok (.invokespecial 59, 3) := by decide +kernel
theorem dX10_init_87 : decode cX10_init 87 = .ok (.putfield 60, 3) := by decide +kernel
theorem dX10_init_90 : decode cX10_init 90 = .ok (.aload_n 0, 1) := by decide +kernel
theorem dX10_init_91 : decode cX10_init 91 = .ok (.new 64, 3) := by decide +kernel
theorem dX10_init_94 : decode cX10_init 94 = .ok (.dup, 1) := by decide +kernel
theorem dX10_init_95 : decode cX10_init 95 = .ok (.invokespecial 66, 3) := by decide +kernel
theorem dX10_init_98 : decode cX10_init 98 = .ok (.putfield 67, 3) := by decide +kernel
theorem dX10_init_101 : decode cX10_init 101 = .ok (.aload_n 0, 1) := by decide +kernel
theorem dX10_init_102 : decode cX10_init 102 = .ok (.new 71, 3) := by decide +kernel
theorem dX10_init_105 : decode cX10_init 105 = .ok (.dup, 1) := by decide +kernel
theorem dX10_init_106 : decode cX10_init 106 = .ok (.invokespecial 73, 3) := by decide +kernel
theorem dX10_init_109 : decode cX10_init 109 = .ok (.putfield 74, 3) := by decide +kernel
theorem dX10_init_112 : decode cX10_init 112 = .ok (.return_, 1) := by decide +kernel
def f_P_init (F : Nat) (s : St) (p0 : Option Nat) : Option (St) :=
  (dgo s p0 10).bind fun _ => (lt (sN s (.inr (.inl (0, 40, fun _ => 0)))) fun s1 => ((dgo s1 p0 10).bind fun o2 => (lt (sF s1 o2 10 (o2.2.1, ups o2.2.2.1 0 (some (sz s)), o2.2.2.2)) fun s3 => ((dgo s3 p0 10).bind fun o4 => (lt (sF s3 o4 10 (ups o4.2.1 1 0, o4.2.2)) fun s5 => ((dgo s5 p0 10).bind fun o6 => (lt (sF s5 o6 10 (ups o6.2.1 2 0, o6.2.2)) fun s7 => (lt (sN s7 (.inr (.inr (.inr (4, fun _ => none))))) fun s8 => ((dgo s8 p0 10).bind fun o9 => (lt (sF s8 o9 10 (o9.2.1, ups o9.2.2.1 3 (some (sz s7)), o9.2.2.2)) fun s10 => ((dgo s10 p0 10).bind fun o11 => (lt (sF s10 o11 10 (ups o11.2.1 4 0, o11.2.2)) fun s12 => (lt (sN s12 (.inl (2, fun _ => 0, fun _ => none, fun _ => 0))) fun s13 => ((dgo s13 (some (sz s12)) 2).bind fun _ => ((f_Logs_init F s13 (some (sz s12))).bind fun x14 => ((dgo x14 p0 10).bind fun o15 => (lt (sF x14 o15 10 (o15.2.1, ups o15.2.2.1 5 (some (sz s12)), o15.2.2.2)) fun s16 => (lt (sN s16 (.inl (5, fun _ => 0, fun _ => none, fun _ => 0))) fun s17 => ((dgo s17 (some (sz s16)) 5).bind fun _ => ((f_Rota_init F s17 (some (sz s16))).bind fun x18 => ((dgo x18 p0 10).bind fun o19 => (lt (sF x18 o19 10 (o19.2.1, ups o19.2.2.1 6 (some (sz s16)), o19.2.2.2)) fun s20 => (lt (sN s20 (.inl (0, fun _ => 0, fun _ => none, fun _ => 0))) fun s21 => ((dgo s21 (some (sz s20)) 0).bind fun _ => ((f_Alarms_init F s21 (some (sz s20))).bind fun x22 => ((dgo x22 p0 10).bind fun o23 => (lt (sF x22 o23 10 (o23.2.1, ups o23.2.2.1 7 (some (sz s20)), o23.2.2.2)) fun s24 => (lt (sN s24 (.inl (4, fun _ => 0, fun _ => none, fun _ => 0))) fun s25 => ((dgo s25 (some (sz s24)) 4).bind fun _ => ((f_Reader_init F s25 (some (sz s24))).bind fun x26 => ((dgo x26 p0 10).bind fun o27 => (lt (sF x26 o27 10 (o27.2.1, ups o27.2.2.1 8 (some (sz s24)), o27.2.2.2)) fun s28 => (lt (sN s28 (.inl (1, fun _ => 0, fun _ => none, fun _ => 0))) fun s29 => ((dgo s29 (some (sz s28)) 1).bind fun _ => ((f_Coder_init F s29 (some (sz s28))).bind fun x30 => ((dgo x30 p0 10).bind fun o31 => (lt (sF x30 o31 10 (o31.2.1, ups o31.2.2.1 9 (some (sz s28)), o31.2.2.2)) fun s32 => (lt (sN s32 (.inl (9, fun _ => 0, fun _ => none, fun _ => 0))) fun s33 => ((dgo s33 (some (sz s32)) 9).bind fun _ => ((f_Walker_init F s33 (some (sz s32))).bind fun x34 => ((dgo x34 p0 10).bind fun o35 => (lt (sF x34 o35 10 (o35.2.1, ups o35.2.2.1 10 (some (sz s32)), o35.2.2.2)) fun s36 => (lt (sN s36 (.inl (7, fun _ => 0, fun _ => none, fun _ => 0))) fun s37 => ((dgo s37 (some (sz s36)) 7).bind fun _ => ((f_Runner_init F s37 (some (sz s36))).bind fun x38 => ((dgo x38 p0 10).bind fun o39 => (lt (sF x38 o39 10 (o39.2.1, ups o39.2.2.1 11 (some (sz s36)), o39.2.2.2)) fun s40 => (some s40))))))))))))))))))))))))))))))))))))))))))))))))
set_option maxHeartbeats 1000000 in
theorem c_f_P_init {F : Nat} {s : St} {p0 : Option Nat} {s' : St} (hf : f_P_init F s p0 = some s') : CO false yX10_init (Cond.code yX10_init cX10_init 1 none) (3) (52) (fun B => [rfB B p0]) s (fun B => none) s' 38 34577 := by
  refine CO.of (fun B => [(0, rfB B p0)]) (by decide +kernel) (fun _ => (by simp [lv_args, rfB_cat, catI, catL, catR])) (fun _ => (by simp [lg_sl, rfB_cat, catI, catL, catR])) (fun Γ D B X hAO hr hin => ?_)
  have X : Cx Γ RX10 cX10_init 1 D B { frames := 3, cells := 38, slots := 34577, locals := 52 } := X
  unfold f_P_init at hf
  refine r_aload_n (pc := 0) X dX10_init_0 0 rfl ?_
  refine b_recv (w := false) (B := B) (D := D) rfl hf (fun a hx hrc hf => ?_)
  refine r_objInit (pc := 1) X hx w_100 w_101 w_objcode (Nat.le_of_ble_eq_true rfl) (Nat.le_of_ble_eq_true rfl) dX10_init_1 ?_
  refine r_aload_n (pc := 4) X dX10_init_4 0 rfl ?_
  refine r_bipush (v := 40) (pc := 5) X dX10_init_5 (by decide) ?_
  refine r_newa (t := 0) (ty := .char) (atype := .char) (pc := 7) X w_148 rfl rfl (by decide) (by decide) (m := 40) (by decide) (by decide) (by decide) (by decide) dX10_init_7 ?_
  refine lts hf (fun s1 hf => ?_)
  refine b_dputR (j := 0) (pc := 9) X rfl inT10 tyX10 tyX10_ok nmX10 (by decide) w_319 (Or.inr ⟨rfl, hin, rfl⟩) (tyX10_ok 0 (by decide)) (Or.inr ⟨_, rfl⟩) rfl dX10_init_9 hf (fun o2 s3 hf => ?_)
  refine r_aload_n (pc := 12) X dX10_init_12 0 rfl ?_
  refine r_iconst (v := 0) (pc := 13) X dX10_init_13 (by decide) ?_
  refine b_dputI (j := 1) (pc := 14) X rfl inT10 tyX10 tyX10_ok nmX10 (by decide) w_320 (Or.inl rfl) (tyX10_ok 1 (by decide)) rfl rfl rfl dX10_init_14 hf (fun o4 s5 hf => ?_)
  refine r_aload_n (pc := 17) X dX10_init_17 0 rfl ?_
  refine r_iconst (v := 0) (pc := 18) X dX10_init_18 (by decide) ?_
  refine b_dputI (j := 2) (pc := 19) X rfl inT10 tyX10 tyX10_ok nmX10 (by decide) w_321 (Or.inl rfl) (tyX10_ok 2 (by decide)) rfl rfl rfl dX10_init_19 hf (fun o6 s7 hf => ?_)
  refine r_aload_n (pc := 22) X dX10_init_22 0 rfl ?_
  refine r_iconst (v := 4) (pc := 23) X dX10_init_23 (by decide) ?_
  refine r_newq (pc := 24) X hAO w_103 (by decide) (m := 4) (by decide) (by decide) (by decide) (by decide) dX10_init_24 ?_
  refine lts hf (fun s8 hf => ?_)
  refine b_dputR (j := 3) (pc := 27) X rfl inT10 tyX10 tyX10_ok nmX10 (by decide) w_322 (Or.inr ⟨rfl, hin, rfl⟩) (tyX10_ok 3 (by decide)) (Or.inr ⟨_, rfl⟩) rfl dX10_init_27 hf (fun o9 s10 hf => ?_)
  refine r_aload_n (pc := 30) X dX10_init_30 0 rfl ?_
  refine r_iconst (v := 0) (pc := 31) X dX10_init_31 (by decide) ?_
  refine b_dputI (j := 4) (pc := 32) X rfl inT10 tyX10 tyX10_ok nmX10 (by decide) w_323 (Or.inl rfl) (tyX10_ok 4 (by decide)) rfl rfl rfl dX10_init_32 hf (fun o11 s12 hf => ?_)
  refine r_aload_n (pc := 35) X dX10_init_35 0 rfl ?_
  refine r_new (pc := 36) X rfl inT2 tyX2 tyX2_ok w_105 w_106 w_75 rfl hdv2 (by decide) (by decide) dX10_init_36 ?_
  refine lts hf (fun s13 hf => ?_)
  refine r_dup (pc := 39) X dX10_init_39 rfl ?_
  refine b_recv (w := false) (B := B) (D := D) rfl hf (fun a hx hrc hf => ?_)
  refine bnd hf (fun x14 h14 hf => ?_)
  refine r_callIN (mc := 8) (ms := 1702) (As := []) (st := [rfB B (some (sz s12)), rfB B p0]) (pc := 40) X (c_f_Logs_init h14) (by rw [hx]; rfl) wn_107 w_108 w_75 w_109 rfl hdS_X2_init (by decide) (by decide) (by decide) (by simp [rfB_cat, catI, catL, catR]) dX10_init_40 (by rw [hx]; rfl) ?_
  refine b_dputR (j := 5) (pc := 43) X rfl inT10 tyX10 tyX10_ok nmX10 (by decide) w_324 (Or.inr ⟨rfl, hin, rfl⟩) (tyX10_ok 5 (by decide)) (Or.inl ⟨_, rfl⟩) rfl dX10_init_43 hf (fun o15 s16 hf => ?_)
  refine r_aload_n (pc := 46) X dX10_init_46 0 rfl ?_
  refine r_new (pc := 47) X rfl inT5 tyX5 tyX5_ok w_150 w_151 w_76 rfl hdv5 (by decide) (by decide) dX10_init_47 ?_
  refine lts hf (fun s17 hf => ?_)
  refine r_dup (pc := 50) X dX10_init_50 rfl ?_
  refine b_recv (w := false) (B := B) (D := D) rfl hf (fun a hx hrc hf => ?_)
  refine bnd hf (fun x18 h18 hf => ?_)
  refine r_callI (mc := 5) (ms := 8378) (As := []) (st := [rfB B (some (sz s16)), rfB B p0]) (pc := 51) X (c_f_Rota_init h18) (by rw [hx]; rfl) w_152 w_153 w_76 w_154 rfl hdS_X5_init (by decide) (by decide) (by decide) (by simp [rfB_cat, catI, catL, catR]) dX10_init_51 (by rw [hx]; rfl) ?_
  refine b_dputR (j := 6) (pc := 54) X rfl inT10 tyX10 tyX10_ok nmX10 (by decide) w_325 (Or.inr ⟨rfl, hin, rfl⟩) (tyX10_ok 6 (by decide)) (Or.inl ⟨_, rfl⟩) rfl dX10_init_54 hf (fun o19 s20 hf => ?_)
  refine r_aload_n (pc := 57) X dX10_init_57 0 rfl ?_
  refine r_new (pc := 58) X rfl inT0 tyX0 tyX0_ok w_183 w_184 w_78 rfl hdv0 (by decide) (by decide) dX10_init_58 ?_
  refine lts hf (fun s21 hf => ?_)
  refine r_dup (pc := 61) X dX10_init_61 rfl ?_
  refine b_recv (w := false) (B := B) (D := D) rfl hf (fun a hx hrc hf => ?_)
  refine bnd hf (fun x22 h22 hf => ?_)
  refine r_callIN (mc := 5) (ms := 20000) (As := []) (st := [rfB B (some (sz s20)), rfB B p0]) (pc := 62) X (c_f_Alarms_init h22) (by rw [hx]; rfl) wn_185 w_186 w_78 w_187 rfl hdS_X0_init (by decide) (by decide) (by decide) (by simp [rfB_cat, catI, catL, catR]) dX10_init_62 (by rw [hx]; rfl) ?_
  refine b_dputR (j := 7) (pc := 65) X rfl inT10 tyX10 tyX10_ok nmX10 (by decide) w_326 (Or.inr ⟨rfl, hin, rfl⟩) (tyX10_ok 7 (by decide)) (Or.inl ⟨_, rfl⟩) rfl dX10_init_65 hf (fun o23 s24 hf => ?_)
  refine r_aload_n (pc := 68) X dX10_init_68 0 rfl ?_
  refine r_new (pc := 69) X rfl inT4 tyX4 tyX4_ok w_219 w_220 w_79 rfl hdv4 (by decide) (by decide) dX10_init_69 ?_
  refine lts hf (fun s25 hf => ?_)
  refine r_dup (pc := 72) X dX10_init_72 rfl ?_
  refine b_recv (w := false) (B := B) (D := D) rfl hf (fun a hx hrc hf => ?_)
  refine bnd hf (fun x26 h26 hf => ?_)
  refine r_callIN (mc := 1) (ms := 0) (As := []) (st := [rfB B (some (sz s24)), rfB B p0]) (pc := 73) X (c_f_Reader_init h26) (by rw [hx]; rfl) wn_221 w_222 w_79 w_223 rfl hdS_X4_init (by decide) (by decide) (by decide) (by simp [rfB_cat, catI, catL, catR]) dX10_init_73 (by rw [hx]; rfl) ?_
  refine b_dputR (j := 8) (pc := 76) X rfl inT10 tyX10 tyX10_ok nmX10 (by decide) w_327 (Or.inr ⟨rfl, hin, rfl⟩) (tyX10_ok 8 (by decide)) (Or.inl ⟨_, rfl⟩) rfl dX10_init_76 hf (fun o27 s28 hf => ?_)
  refine r_aload_n (pc := 79) X dX10_init_79 0 rfl ?_
  refine r_new (pc := 80) X rfl inT1 tyX1 tyX1_ok w_235 w_236 w_80 rfl hdv1 (by decide) (by decide) dX10_init_80 ?_
  refine lts hf (fun s29 hf => ?_)
  refine r_dup (pc := 83) X dX10_init_83 rfl ?_
  refine b_recv (w := false) (B := B) (D := D) rfl hf (fun a hx hrc hf => ?_)
  refine bnd hf (fun x30 h30 hf => ?_)
  refine r_callIN (mc := 3) (ms := 160) (As := []) (st := [rfB B (some (sz s28)), rfB B p0]) (pc := 84) X (c_f_Coder_init h30) (by rw [hx]; rfl) wn_237 w_238 w_80 w_239 rfl hdS_X1_init (by decide) (by decide) (by decide) (by simp [rfB_cat, catI, catL, catR]) dX10_init_84 (by rw [hx]; rfl) ?_
  refine b_dputR (j := 9) (pc := 87) X rfl inT10 tyX10 tyX10_ok nmX10 (by decide) w_328 (Or.inr ⟨rfl, hin, rfl⟩) (tyX10_ok 9 (by decide)) (Or.inl ⟨_, rfl⟩) rfl dX10_init_87 hf (fun o31 s32 hf => ?_)
  refine r_aload_n (pc := 90) X dX10_init_90 0 rfl ?_
  refine r_new (pc := 91) X rfl inT9 tyX9 tyX9_ok w_262 w_263 w_81 rfl hdv9 (by decide) (by decide) dX10_init_91 ?_
  refine lts hf (fun s33 hf => ?_)
  refine r_dup (pc := 94) X dX10_init_94 rfl ?_
  refine b_recv (w := false) (B := B) (D := D) rfl hf (fun a hx hrc hf => ?_)
  refine bnd hf (fun x34 h34 hf => ?_)
  refine r_callIN (mc := 3) (ms := 2108) (As := []) (st := [rfB B (some (sz s32)), rfB B p0]) (pc := 95) X (c_f_Walker_init h34) (by rw [hx]; rfl) wn_264 w_265 w_81 w_266 rfl hdS_X9_init (by decide) (by decide) (by decide) (by simp [rfB_cat, catI, catL, catR]) dX10_init_95 (by rw [hx]; rfl) ?_
  refine b_dputR (j := 10) (pc := 98) X rfl inT10 tyX10 tyX10_ok nmX10 (by decide) w_329 (Or.inr ⟨rfl, hin, rfl⟩) (tyX10_ok 10 (by decide)) (Or.inl ⟨_, rfl⟩) rfl dX10_init_98 hf (fun o35 s36 hf => ?_)
  refine r_aload_n (pc := 101) X dX10_init_101 0 rfl ?_
  refine r_new (pc := 102) X rfl inT7 tyX7 tyX7_ok w_300 w_301 w_83 rfl hdv7 (by decide) (by decide) dX10_init_102 ?_
  refine lts hf (fun s37 hf => ?_)
  refine r_dup (pc := 105) X dX10_init_105 rfl ?_
  refine b_recv (w := false) (B := B) (D := D) rfl hf (fun a hx hrc hf => ?_)
  refine bnd hf (fun x38 h38 hf => ?_)
  refine r_callIN (mc := 4) (ms := 2148) (As := []) (st := [rfB B (some (sz s36)), rfB B p0]) (pc := 106) X (c_f_Runner_init h38) (by rw [hx]; rfl) wn_302 w_303 w_83 w_304 rfl hdS_X7_init (by decide) (by decide) (by decide) (by simp [rfB_cat, catI, catL, catR]) dX10_init_106 (by rw [hx]; rfl) ?_
  refine b_dputR (j := 11) (pc := 109) X rfl inT10 tyX10 tyX10_ok nmX10 (by decide) w_330 (Or.inr ⟨rfl, hin, rfl⟩) (tyX10_ok 11 (by decide)) (Or.inl ⟨_, rfl⟩) rfl dX10_init_109 hf (fun o39 s40 hf => ?_)
  exact e_vret (pc := 112) X hr hf (by decide) (by decide) dX10_init_112
/-! f_M_init -/
theorem dX11_init_0 : decode cX11_init 0 = .ok (.aload_n 0, 1) := by decide +kernel
theorem dX11_init_1 : decode cX11_init 1 = .ok (.invokespecial 1, 3) := by decide +kernel
theorem dX11_init_4 : decode cX11_init 4 = .ok (.aload_n 0, 1) := by decide +kernel
theorem dX11_init_5 : decode cX11_init 5 = .ok (.bipush 40, 2) := by decide +kernel
theorem dX11_init_7 : decode cX11_init 7 = .ok (.newarray .int, 2) := by decide +kernel
theorem dX11_init_9 : decode cX11_init 9 = .ok (.putfield 7, 3) := by decide +kernel
theorem dX11_init_12 : decode cX11_init 12 = .ok (.aload_n 0, 1) := by decide +kernel
theorem dX11_init_13 : decode cX11_init 13 = .ok (.sipush 320, 3) := by decide +kernel
theorem dX11_init_16 : decode cX11_init 16 = .ok (.newarray .int, 2) := by decide +kernel
theorem dX11_init_18 : decode cX11_init 18 = .ok (.putfield 13, 3) := by decide +kernel
theorem dX11_init_21 : decode cX11_init 21 = .ok (.aload_n 0, 1) := by decide +kernel
theorem dX11_init_22 : decode cX11_init 22 = .ok (.sipush 320, 3) := by decide +kernel
theorem dX11_init_25 : decode cX11_init 25 = .ok (.newarray .int, 2) := by decide +kernel
theorem dX11_init_27 : decode cX11_init 27 = .ok (.putfield 16, 3) := by decide +kernel
theorem dX11_init_30 : decode cX11_init 30 = .ok (.aload_n 0, 1) := by decide +kernel
theorem dX11_init_31 : decode cX11_init 31 = .ok (.iconst 5, 1) := by decide +kernel
theorem dX11_init_32 : decode cX11_init 32 = .ok (.newarray .int, 2) := by decide +kernel
theorem dX11_init_34 : decode cX11_init 34 = .ok (.putfield 19, 3) := by decide +kernel
theorem dX11_init_37 : decode cX11_init 37 = .ok (.aload_n 0, 1) := by decide +kernel
theorem dX11_init_38 : decode cX11_init 38 = .ok (.sipush 320, 3) := by decide +kernel
theorem dX11_init_41 : decode cX11_init 41 = .ok (.newarray .int, 2) := by decide +kernel
theorem dX11_init_43 : decode cX11_init 43 = .ok (.putfield 22, 3) := by decide +kernel
theorem dX11_init_46 : decode cX11_init 46 = .ok (.aload_n 0, 1) := by decide +kernel
theorem dX11_init_47 : decode cX11_init 47 = .ok (.sipush 320, 3) := by decide +kernel
theorem dX11_init_50 : decode cX11_init 50 = .ok (.newarray .int, 2) := by decide +kernel
theorem dX11_init_52 : decode cX11_init 52 = .ok (.putfield 25, 3) := by decide +kernel
theorem dX11_init_55 : decode cX11_init 55 = .ok (.aload_n 0, 1) := by decide +kernel
theorem dX11_init_56 : decode cX11_init 56 = .ok (.iconst 5, 1) := by decide +kernel
theorem dX11_init_57 : decode cX11_init 57 = .ok (.newarray .int, 2) := by decide +kernel
theorem dX11_init_59 : decode cX11_init 59 = .ok (.putfield 28, 3) := by decide +kernel
theorem dX11_init_62 : decode cX11_init 62 = .ok (.aload_n 0, 1) := by decide +kernel
theorem dX11_init_63 : decode cX11_init 63 = .ok (.bipush 64, 2) := by decide +kernel
theorem dX11_init_65 : decode cX11_init 65 = .ok (.newarray .int, 2) := by decide +kernel
theorem dX11_init_67 : decode cX11_init 67 = .ok (.putfield 31, 3) := by decide +kernel
theorem dX11_init_70 : decode cX11_init 70 = .ok (.aload_n 0, 1) := by decide +kernel
theorem dX11_init_71 : decode cX11_init 71 = .ok (.bipush 64, 2) := by decide +kernel
theorem dX11_init_73 : decode cX11_init 73 = .ok (.newarray .int, 2) := by decide +kernel
theorem dX11_init_75 : decode cX11_init 75 = .ok (.putfield 34, 3) := by decide +kernel
theorem dX11_init_78 : decode cX11_init 78 = .ok (.aload_n 0, 1) := by decide +kernel
theorem dX11_init_79 : decode cX11_init 79 = .ok (.bipush 64, 2) := by decide +kernel
theorem dX11_init_81 : decode cX11_init 81 = .ok (.newarray .boolean, 2) := by decide +kernel
theorem dX11_init_83 : decode cX11_init 83 = .ok (.putfield 37, 3) := by decide +kernel
theorem dX11_init_86 : decode cX11_init 86 = .ok (.aload_n 0, 1) := by decide +kernel
theorem dX11_init_87 : decode cX11_init 87 = .ok (.bipush 64, 2) := by decide +kernel
theorem dX11_init_89 : decode cX11_init 89 = .ok (.newarray .long, 2) := by decide +kernel
theorem dX11_init_91 : decode cX11_init 91 = .ok (.putfield 41, 3) := by decide +kernel
theorem dX11_init_94 : decode cX11_init 94 = .ok (.aload_n 0, 1) := by decide +kernel
theorem dX11_init_95 : decode cX11_init 95 = .ok (.bipush 64, 2) := by decide +kernel
theorem dX11_init_97 : decode cX11_init 97 = .ok (.newarray .boolean, 2) := by decide +kernel
theorem dX11_init_99 : decode cX11_init 99 = .ok (.putfield 45, 3) := by decide +kernel
theorem dX11_init_102 : decode cX11_init 102 = .ok (.aload_n 0, 1) := by decide +kernel
theorem dX11_init_103 : decode cX11_init 103 = .ok (.bipush 100, 2) := by decide +kernel
theorem dX11_init_105 : decode cX11_init 105 = .ok (.newarray .int, 2) := by decide +kernel
theorem dX11_init_107 : decode cX11_init 107 = .ok (.putfield 48, 3) := by decide +kernel
theorem dX11_init_110 : decode cX11_init 110 = .ok (.aload_n 0, 1) := by decide +kernel
theorem dX11_init_111 : decode cX11_init 111 = .ok (.bipush 100, 2) := by decide +kernel
theorem dX11_init_113 : decode cX11_init 113 = .ok (.newarray .int, 2) := by decide +kernel
theorem dX11_init_115 : decode cX11_init 115 = .ok (.putfield 51, 3) := by decide +kernel
theorem dX11_init_118 : decode cX11_init 118 = .ok (.aload_n 0, 1) := by decide +kernel
theorem dX11_init_119 : decode cX11_init 119 = .ok (.bipush 100, 2) := by decide +kernel
theorem dX11_init_121 : decode cX11_init 121 = .ok (.newarray .int, 2) := by decide +kernel
theorem dX11_init_123 : decode cX11_init 123 = .ok (.putfield 54, 3) := by decide +kernel
theorem dX11_init_126 : decode cX11_init 126 = .ok (.aload_n 0, 1) := by decide +kernel
theorem dX11_init_127 : decode cX11_init 127 = .ok (.bipush 100, 2) := by decide +kernel
theorem dX11_init_129 : decode cX11_init 129 = .ok (.newarray .int, 2) := by decide +kernel
theorem dX11_init_131 : decode cX11_init 131 = .ok (.putfield 57, 3) := by decide +kernel
theorem dX11_init_134 : decode cX11_init 134 = .ok (.aload_n 0, 1) := by decide +kernel
theorem dX11_init_135 : decode cX11_init 135 = .ok (.sipush 1008, 3) := by decide +kernel
theorem dX11_init_138 : decode cX11_init 138 = .ok (.newarray .boolean, 2) := by decide +kernel
theorem dX11_init_140 : decode cX11_init 140 = .ok (.putfield 60, 3) := by decide +kernel
theorem dX11_init_143 : decode cX11_init 143 = .ok (.aload_n 0, 1) := by decide +kernel
theorem dX11_init_144 : decode cX11_init 144 = .ok (.bipush 126, 2) := by decide +kernel
theorem dX11_init_146 : decode cX11_init 146 = .ok (.newarray .int, 2) := by decide +kernel
theorem dX11_init_148 : decode cX11_init 148 = .ok (.putfield 63, 3) := by decide +kernel
theorem dX11_init_151 : decode cX11_init 151 = .ok (.aload_n 0, 1) := by decide +kernel
theorem dX11_init_152 : decode cX11_init 152 = .ok (.bipush 126, 2) := by decide +kernel
theorem dX11_init_154 : decode cX11_init 154 = .ok (.newarray .int, 2) := by decide +kernel
theorem dX11_init_156 : decode cX11_init 156 = .ok (.putfield 66, 3) := by decide +kernel
theorem dX11_init_159 : decode cX11_init 159 = .ok (.aload_n 0, 1) := by decide +kernel
theorem dX11_init_160 : decode cX11_init 160 = .ok (.iconst 4, 1) := by decide +kernel
theorem dX11_init_161 : decode cX11_init 161 = .ok (.newarray .int, 2) := by decide +kernel
theorem dX11_init_163 : decode cX11_init 163 = .ok (.putfield 69, 3) := by decide +kernel
theorem dX11_init_166 : decode cX11_init 166 = .ok (.aload_n 0, 1) := by decide +kernel
theorem dX11_init_167 : decode cX11_init 167 = .ok (.iconst 4, 1) := by decide +kernel
theorem dX11_init_168 : decode cX11_init 168 = .ok (.newarray .int, 2) := by decide +kernel
theorem dX11_init_170 : decode cX11_init 170 = .ok (.putfield 72, 3) := by decide +kernel
theorem dX11_init_173 : decode cX11_init 173 = .ok (.aload_n 0, 1) := by decide +kernel
theorem dX11_init_174 : decode cX11_init 174 = .ok (.iconst 4, 1) := by decide +kernel
theorem dX11_init_175 : decode cX11_init 175 = .ok (.newarray .int, 2) := by decide +kernel
theorem dX11_init_177 : decode cX11_init 177 = .ok (.putfield 75, 3) := by decide +kernel
theorem dX11_init_180 : decode cX11_init 180 = .ok (.aload_n 0, 1) := by decide +kernel
theorem dX11_init_181 : decode cX11_init 181 = .ok (.iconst 4, 1) := by decide +kernel
theorem dX11_init_182 : decode cX11_init 182 = .ok (.newarray .boolean, 2) := by decide +kernel
theorem dX11_init_184 : decode cX11_init 184 = .ok (.putfield 78, 3) := by decide +kernel
theorem dX11_init_187 : decode cX11_init 187 = .ok (.aload_n 0, 1) := by decide +kernel
theorem dX11_init_188 : decode cX11_init 188 = .ok (.iconst 4, 1) := by decide +kernel
theorem dX11_init_189 : decode cX11_init 189 = .ok (.newarray .int, 2) := by decide +kernel
theorem dX11_init_191 : decode cX11_init 191 = .ok (.putfield 81, 3) := by decide +kernel
theorem dX11_init_194 : decode cX11_init 194 = .ok (.aload_n 0, 1) := by decide +kernel
theorem dX11_init_195 : decode cX11_init 195 = .ok (.iconst 4, 1) := by decide +kernel
theorem dX11_init_196 : decode cX11_init 196 = .ok (.newarray .int, 2) := by decide +kernel
theorem dX11_init_198 : decode cX11_init 198 = .ok (.putfield 84, 3) := by decide +kernel
theorem dX11_init_201 : decode cX11_init 201 = .ok (.aload_n 0, 1) := by decide +kernel
theorem dX11_init_202 : decode cX11_init 202 = .ok (.iconst 4, 1) := by decide +kernel
theorem dX11_init_203 : decode cX11_init 203 = .ok (.newarray .int, 2) := by decide +kernel
theorem dX11_init_205 : decode cX11_init 205 = .ok (.putfield 87, 3) := by decide +kernel
theorem dX11_init_208 : decode cX11_init 208 = .ok (.aload_n 0, 1) := by decide +kernel
theorem dX11_init_209 : decode cX11_init 209 = .ok (.bipush 20, 2) := by decide +kernel
theorem dX11_init_211 : decode cX11_init 211 = .ok (.newarray .int, 2) := by decide +kernel
theorem dX11_init_213 : decode cX11_init 213 = .ok (.putfield 90, 3) := by decide +kernel
theorem dX11_init_216 : decode cX11_init 216 = .ok (.aload_n 0, 1) := by decide +kernel
theorem dX11_init_217 : decode cX11_init 217 = .ok (.bipush 20, 2) := by decide +kernel
theorem dX11_init_219 : decode cX11_init 219 = .ok (.newarray .int, 2) := by decide +kernel
theorem dX11_init_221 : decode cX11_init 221 = .ok (.putfield 93, 3) := by decide +kernel
theorem dX11_init_224 : decode cX11_init 224 = .ok (.aload_n 0, 1) := by decide +kernel
theorem dX11_init_225 : decode cX11_init 225 = .ok (.sipush 4000, 3) := by decide +kernel
theorem dX11_init_228 : decode cX11_init 228 = .ok (.newarray .int, 2) := by decide +kernel
theorem dX11_init_230 : decode cX11_init 230 = .ok (.putfield 96, 3) := by decide +kernel
theorem dX11_init_233 : decode cX11_init 233 = .ok (.aload_n 0, 1) := by decide +kernel
theorem dX11_init_234 : decode cX11_init 234 = .ok (.sipush 4000, 3) := by decide +kernel
theorem dX11_init_237 : decode cX11_init 237 = .ok (.newarray .int, 2) := by decide +kernel
theorem dX11_init_239 : decode cX11_init 239 = .ok (.putfield 99, 3) := by decide +kernel
theorem dX11_init_242 : decode cX11_init 242 = .ok (.iconst 0, 1) := by decide +kernel
theorem dX11_init_243 : decode cX11_init 243 = .ok (.istore_n 1, 1) := by decide +kernel
theorem dX11_init_244 : decode cX11_init 244 = .ok (.iload_n 1, 1) := by decide +kernel
theorem dX11_init_245 : decode cX11_init 245 = .ok (.bipush 126, 2) := by decide +kernel
theorem dX11_init_247 : decode cX11_init 247 = .ok (.if_icmp .ge 23, 3) := by decide +kernel
theorem dX11_init_250 : decode cX11_init 250 = .ok (.aload_n 0, 1) := by decide +kernel
theorem dX11_init_251 : decode cX11_init 251 = .ok (.getfield 63, 3) := by decide +kernel
theorem dX11_init_254 : decode cX11_init 254 = .ok (.iload_n 1, 1) := by decide +kernel
theorem dX11_init_255 : decode cX11_init 255 = .ok (.iconst (-1), 1) := by decide +kernel
theorem dX11_init_256 : decode cX11_init 256 = .ok (.iastore, 1) := by decide +kernel
theorem dX11_init_257 : decode cX11_init 257 = .ok (.aload_n 0, 1) := by decide +kernel
theorem dX11_init_258 : decode cX11_init 258 = .ok (.getfield 66, 3) := by decide +kernel
theorem dX11_init_261 : decode cX11_init 261 = .ok (.iload_n 1, 1) := by decide +kernel
theorem dX11_init_262 : decode cX11_init 262 = .ok (.iconst (-1), 1) := by decide +kernel
theorem dX11_init_263 : decode cX11_init 263 = .ok (.iastore, 1) := by decide +kernel
theorem dX11_init_264 : decode cX11_init 264 = .ok (.iinc 1 1, 3) := by decide +kernel
theorem dX11_init_267 : decode cX11_init 267 = .ok (.goto (-23), 3) := by decide +kernel
theorem dX11_init_270 : decode cX11_init 270 = .ok (.return_, 1) := by decide +kernel
def f_M_init_b244 (F : Nat) : Nat → St → Option Nat → Int32 → Option (St)
  | 0, _, _, _ => none
  | n + 1, s, l0, l1 =>
    if 126 ≤ l1 then
      (some s)
    else
      ((dgo s l0 11).bind fun o91 => ((dga s (o91.2.2.1 38) 1).bind fun o92 => ((ix o92.2.1 l1).bind fun j93 => (lt (sD s o92.1 (.inr (.inl (1, o92.2.1, ups o92.2.2 j93 (-1))))) fun s94 => ((dgo s94 l0 11).bind fun o95 => ((dga s94 (o95.2.2.1 39) 1).bind fun o96 => ((ix o96.2.1 l1).bind fun j97 => (lt (sD s94 o96.1 (.inr (.inl (1, o96.2.1, ups o96.2.2 j97 (-1))))) fun s98 => (f_M_init_b244 F n s98 l0 (l1 + 1))))))))))
def f_M_init (F : Nat) (s : St) (p0 : Option Nat) : Option (St) :=
  (dgo s p0 11).bind fun _ => (lt (sN s (.inr (.inl (1, 40, fun _ => 0)))) fun s1 => ((dgo s1 p0 11).bind fun o2 => (lt (sF s1 o2 11 (o2.2.1, ups o2.2.2.1 0 (some (sz s)), o2.2.2.2)) fun s3 => (lt (sN s3 (.inr (.inl (1, 320, fun _ => 0)))) fun s4 => ((dgo s4 p0 11).bind fun o5 => (lt (sF s4 o5 11 (o5.2.1, ups o5.2.2.1 2 (some (sz s3)), o5.2.2.2)) fun s6 => (lt (sN s6 (.inr (.inl (1, 320, fun _ => 0)))) fun s7 => ((dgo s7 p0 11).bind fun o8 => (lt (sF s7 o8 11 (o8.2.1, ups o8.2.2.1 3 (some (sz s6)), o8.2.2.2)) fun s9 => (lt (sN s9 (.inr (.inl (1, 5, fun _ => 0)))) fun s10 => ((dgo s10 p0 11).bind fun o11 => (lt (sF s10 o11 11 (o11.2.1, ups o11.2.2.1 4 (some (sz s9)), o11.2.2.2)) fun s12 => (lt (sN s12 (.inr (.inl (1, 320, fun _ => 0)))) fun s13 => ((dgo s13 p0 11).bind fun o14 => (lt (sF s13 o14 11 (o14.2.1, ups o14.2.2.1 5 (some (sz s12)), o14.2.2.2)) fun s15 => (lt (sN s15 (.inr (.inl (1, 320, fun _ => 0)))) fun s16 => ((dgo s16 p0 11).bind fun o17 => (lt (sF s16 o17 11 (o17.2.1, ups o17.2.2.1 6 (some (sz s15)), o17.2.2.2)) fun s18 => (lt (sN s18 (.inr (.inl (1, 5, fun _ => 0)))) fun s19 => ((dgo s19 p0 11).bind fun o20 => (lt (sF s19 o20 11 (o20.2.1, ups o20.2.2.1 7 (some (sz s18)), o20.2.2.2)) fun s21 => (lt (sN s21 (.inr (.inl (1, 64, fun _ => 0)))) fun s22 => ((dgo s22 p0 11).bind fun o23 => (lt (sF s22 o23 11 (o23.2.1, ups o23.2.2.1 18 (some (sz s21)), o23.2.2.2)) fun s24 => (lt (sN s24 (.inr (.inl (1, 64, fun _ => 0)))) fun s25 => ((dgo s25 p0 11).bind fun o26 => (lt (sF s25 o26 11 (o26.2.1, ups o26.2.2.1 20 (some (sz s24)), o26.2.2.2)) fun s27 => (lt (sN s27 (.inr (.inl (3, 64, fun _ => 0)))) fun s28 => ((dgo s28 p0 11).bind fun o29 => (lt (sF s28 o29 11 (o29.2.1, ups o29.2.2.1 24 (some (sz s27)), o29.2.2.2)) fun s30 => (lt (sN s30 (.inr (.inr (.inl (64, fun _ => 0))))) fun s31 => ((dgo s31 p0 11).bind fun o32 => (lt (sF s31 o32 11 (o32.2.1, ups o32.2.2.1 25 (some (sz s30)), o32.2.2.2)) fun s33 => (lt (sN s33 (.inr (.inl (3, 64, fun _ => 0)))) fun s34 => ((dgo s34 p0 11).bind fun o35 => (lt (sF s34 o35 11 (o35.2.1, ups o35.2.2.1 27 (some (sz s33)), o35.2.2.2)) fun s36 => (lt (sN s36 (.inr (.inl (1, 100, fun _ => 0)))) fun s37 => ((dgo s37 p0 11).bind fun o38 => (lt (sF s37 o38 11 (o38.2.1, ups o38.2.2.1 32 (some (sz s36)), o38.2.2.2)) fun s39 => (lt (sN s39 (.inr (.inl (1, 100, fun _ => 0)))) fun s40 => ((dgo s40 p0 11).bind fun o41 => (lt (sF s40 o41 11 (o41.2.1, ups o41.2.2.1 33 (some (sz s39)), o41.2.2.2)) fun s42 => (lt (sN s42 (.inr (.inl (1, 100, fun _ => 0)))) fun s43 => ((dgo s43 p0 11).bind fun o44 => (lt (sF s43 o44 11 (o44.2.1, ups o44.2.2.1 34 (some (sz s42)), o44.2.2.2)) fun s45 => (lt (sN s45 (.inr (.inl (1, 100, fun _ => 0)))) fun s46 => ((dgo s46 p0 11).bind fun o47 => (lt (sF s46 o47 11 (o47.2.1, ups o47.2.2.1 35 (some (sz s45)), o47.2.2.2)) fun s48 => (lt (sN s48 (.inr (.inl (3, 1008, fun _ => 0)))) fun s49 => ((dgo s49 p0 11).bind fun o50 => (lt (sF s49 o50 11 (o50.2.1, ups o50.2.2.1 37 (some (sz s48)), o50.2.2.2)) fun s51 => (lt (sN s51 (.inr (.inl (1, 126, fun _ => 0)))) fun s52 => ((dgo s52 p0 11).bind fun o53 => (lt (sF s52 o53 11 (o53.2.1, ups o53.2.2.1 38 (some (sz s51)), o53.2.2.2)) fun s54 => (lt (sN s54 (.inr (.inl (1, 126, fun _ => 0)))) fun s55 => ((dgo s55 p0 11).bind fun o56 => (lt (sF s55 o56 11 (o56.2.1, ups o56.2.2.1 39 (some (sz s54)), o56.2.2.2)) fun s57 => (lt (sN s57 (.inr (.inl (1, 4, fun _ => 0)))) fun s58 => ((dgo s58 p0 11).bind fun o59 => (lt (sF s58 o59 11 (o59.2.1, ups o59.2.2.1 41 (some (sz s57)), o59.2.2.2)) fun s60 => (lt (sN s60 (.inr (.inl (1, 4, fun _ => 0)))) fun s61 => ((dgo s61 p0 11).bind fun o62 => (lt (sF s61 o62 11 (o62.2.1, ups o62.2.2.1 42 (some (sz s60)), o62.2.2.2)) fun s63 => (lt (sN s63 (.inr (.inl (1, 4, fun _ => 0)))) fun s64 => ((dgo s64 p0 11).bind fun o65 => (lt (sF s64 o65 11 (o65.2.1, ups o65.2.2.1 43 (some (sz s63)), o65.2.2.2)) fun s66 => (lt (sN s66 (.inr (.inl (3, 4, fun _ => 0)))) fun s67 => ((dgo s67 p0 11).bind fun o68 => (lt (sF s67 o68 11 (o68.2.1, ups o68.2.2.1 44 (some (sz s66)), o68.2.2.2)) fun s69 => (lt (sN s69 (.inr (.inl (1, 4, fun _ => 0)))) fun s70 => ((dgo s70 p0 11).bind fun o71 => (lt (sF s70 o71 11 (o71.2.1, ups o71.2.2.1 45 (some (sz s69)), o71.2.2.2)) fun s72 => (lt (sN s72 (.inr (.inl (1, 4, fun _ => 0)))) fun s73 => ((dgo s73 p0 11).bind fun o74 => (lt (sF s73 o74 11 (o74.2.1, ups o74.2.2.1 46 (some (sz s72)), o74.2.2.2)) fun s75 => (lt (sN s75 (.inr (.inl (1, 4, fun _ => 0)))) fun s76 => ((dgo s76 p0 11).bind fun o77 => (lt (sF s76 o77 11 (o77.2.1, ups o77.2.2.1 47 (some (sz s75)), o77.2.2.2)) fun s78 => (lt (sN s78 (.inr (.inl (1, 20, fun _ => 0)))) fun s79 => ((dgo s79 p0 11).bind fun o80 => (lt (sF s79 o80 11 (o80.2.1, ups o80.2.2.1 48 (some (sz s78)), o80.2.2.2)) fun s81 => (lt (sN s81 (.inr (.inl (1, 20, fun _ => 0)))) fun s82 => ((dgo s82 p0 11).bind fun o83 => (lt (sF s82 o83 11 (o83.2.1, ups o83.2.2.1 49 (some (sz s81)), o83.2.2.2)) fun s84 => (lt (sN s84 (.inr (.inl (1, 4000, fun _ => 0)))) fun s85 => ((dgo s85 p0 11).bind fun o86 => (lt (sF s85 o86 11 (o86.2.1, ups o86.2.2.1 51 (some (sz s84)), o86.2.2.2)) fun s87 => (lt (sN s87 (.inr (.inl (1, 4000, fun _ => 0)))) fun s88 => ((dgo s88 p0 11).bind fun o89 => (lt (sF s88 o89 11 (o89.2.1, ups o89.2.2.1 53 (some (sz s87)), o89.2.2.2)) fun s90 => (f_M_init_b244 F F s90 p0 0)))))))))))))))))))))))))))))))))))))))))))))))))))))))))))))))))))))))))))))))))))))))))))
set_option maxHeartbeats 1000000 in
theorem c_f_M_init_b244 {F : Nat} {Γ : Ga} {D : DD} {B : Nat} {s' : St} (X : Cx Γ RX11 cX11_init 2 D B { frames := 1, cells := 30, slots := 11378, locals := 12 }) (hr : (Gme Γ).sig.returnType = none) : ∀ (n : Nat) {s : St} {l0 : Option Nat} {l1 : Int32}, f_M_init_b244 F n s l0 l1 = some s' → V Γ D B false 2 (QM Γ D B false s' none 30 11378) 30 11378 s 244 [(0, rfB B l0), (1, .int l1)] [] := by
  intro n
  induction n with
  | zero => intro s l0 l1 hf; rw [f_M_init_b244] at hf; cases hf
  | succ n ih =>
    intro s l0 l1 hf
    rw [f_M_init_b244] at hf
    refine r_iload_n (pc := 244) X dX11_init_244 1 rfl ?_
    refine r_bipush (v := 126) (pc := 245) X dX11_init_245 (by decide) ?_
    refine b_icmp_ge (tgt := 270) (pc := 247) X dX11_init_247 (by decide) hf (fun hf => ?_) (fun hf => ?_)
    · exact e_vret (pc := 270) X hr hf (by decide) (by decide) dX11_init_270
    · refine r_aload_n (pc := 250) X dX11_init_250 0 rfl ?_
      refine b_dgetR (j := 38) (pc := 251) X rfl inT11 (by decide) w_1118 rfl dX11_init_251 hf (fun o91 hf => ?_)
      refine r_iload_n (pc := 254) X dX11_init_254 1 rfl ?_
      refine r_iconst (v := -1) (pc := 255) X dX11_init_255 (by decide) ?_
      refine b_dast (pc := 256) X dX11_init_256 hf (fun o92 j93 s94 hf => ?_)
      refine r_aload_n (pc := 257) X dX11_init_257 0 rfl ?_
      refine b_dgetR (j := 39) (pc := 258) X rfl inT11 (by decide) w_1119 rfl dX11_init_258 hf (fun o95 hf => ?_)
      refine r_iload_n (pc := 261) X dX11_init_261 1 rfl ?_
      refine r_iconst (v := -1) (pc := 262) X dX11_init_262 (by decide) ?_
      refine b_dast (pc := 263) X dX11_init_263 hf (fun o96 j97 s98 hf => ?_)
      refine r_iinc (v := l1 + 1) (lv' := [(0, rfB B l0), (1, .int (l1 + 1))]) (pc := 264) X dX11_init_264 1 rfl rfl (by decide) [1, 0] (by simp [lv_pick, rfB_cat, catI, catL, catR]) ?_
      refine r_goto (tgt := 244) (pc := 267) X dX11_init_267 (by decide) ?_
      exact ih hf
set_option maxHeartbeats 1000000 in
theorem c_f_M_init {F : Nat} {s : St} {p0 : Option Nat} {s' : St} (hf : f_M_init F s p0 = some s') : CC false yX11_init (Cond.code yX11_init cX11_init 2 none) (1) (12) (fun B => [rfB B p0]) s (fun B => none) s' 30 11378 := by
  refine CC.of (fun B => [(0, rfB B p0)]) (by decide +kernel) (fun _ => (by simp [lv_args, rfB_cat, catI, catL, catR])) (fun _ => (by simp [lg_sl, rfB_cat, catI, catL, catR])) (fun Γ D B X hr hin => ?_)
  have X : Cx Γ RX11 cX11_init 2 D B { frames := 1, cells := 30, slots := 11378, locals := 12 } := X
  unfold f_M_init at hf
  refine r_aload_n (pc := 0) X dX11_init_0 0 rfl ?_
  refine b_recv (w := false) (B := B) (D := D) rfl hf (fun a hx hrc hf => ?_)
  refine r_objInit (pc := 1) X hx w_1079 w_101 w_objcode (Nat.le_of_ble_eq_true rfl) (Nat.le_of_ble_eq_true rfl) dX11_init_1 ?_
  refine r_aload_n (pc := 4) X dX11_init_4 0 rfl ?_
  refine r_bipush (v := 40) (pc := 5) X dX11_init_5 (by decide) ?_
  refine r_newa (t := 1) (ty := .int) (atype := .int) (pc := 7) X w_149 rfl rfl (by decide) (by decide) (m := 40) (by decide) (by decide) (by decide) (by decide) dX11_init_7 ?_
  refine lts hf (fun s1 hf => ?_)
  refine b_dputR (j := 0) (pc := 9) X rfl inT11 tyX11 tyX11_ok nmX11 (by decide) w_1080 (Or.inr ⟨rfl, hin, rfl⟩) (tyX11_ok 0 (by decide)) (Or.inr ⟨_, rfl⟩) rfl dX11_init_9 hf (fun o2 s3 hf => ?_)
  refine r_aload_n (pc := 12) X dX11_init_12 0 rfl ?_
  refine r_sipush (v := 320) (pc := 13) X dX11_init_13 (by decide) ?_
  refine r_newa (t := 1) (ty := .int) (atype := .int) (pc := 16) X w_149 rfl rfl (by decide) (by decide) (m := 320) (by decide) (by decide) (by decide) (by decide) dX11_init_16 ?_
  refine lts hf (fun s4 hf => ?_)
  refine b_dputR (j := 2) (pc := 18) X rfl inT11 tyX11 tyX11_ok nmX11 (by decide) w_1082 (Or.inr ⟨rfl, hin, rfl⟩) (tyX11_ok 2 (by decide)) (Or.inr ⟨_, rfl⟩) rfl dX11_init_18 hf (fun o5 s6 hf => ?_)
  refine r_aload_n (pc := 21) X dX11_init_21 0 rfl ?_
  refine r_sipush (v := 320) (pc := 22) X dX11_init_22 (by decide) ?_
  refine r_newa (t := 1) (ty := .int) (atype := .int) (pc := 25) X w_149 rfl rfl (by decide) (by decide) (m := 320) (by decide) (by decide) (by decide) (by decide) dX11_init_25 ?_
  refine lts hf (fun s7 hf => ?_)
  refine b_dputR (j := 3) (pc := 27) X rfl inT11 tyX11 tyX11_ok nmX11 (by decide) w_1083 (Or.inr ⟨rfl, hin, rfl⟩) (tyX11_ok 3 (by decide)) (Or.inr ⟨_, rfl⟩) rfl dX11_init_27 hf (fun o8 s9 hf => ?_)
  refine r_aload_n (pc := 30) X dX11_init_30 0 rfl ?_
  refine r_iconst (v := 5) (pc := 31) X dX11_init_31 (by decide) ?_
  refine r_newa (t := 1) (ty := .int) (atype := .int) (pc := 32) X w_149 rfl rfl (by decide) (by decide) (m := 5) (by decide) (by decide) (by decide) (by decide) dX11_init_32 ?_
  refine lts hf (fun s10 hf => ?_)
  refine b_dputR (j := 4) (pc := 34) X rfl inT11 tyX11 tyX11_ok nmX11 (by decide) w_1084 (Or.inr ⟨rfl, hin, rfl⟩) (tyX11_ok 4 (by decide)) (Or.inr ⟨_, rfl⟩) rfl dX11_init_34 hf (fun o11 s12 hf => ?_)
  refine r_aload_n (pc := 37) X dX11_init_37 0 rfl ?_
  refine r_sipush (v := 320) (pc := 38) X dX11_init_38 (by decide) ?_
  refine r_newa (t := 1) (ty := .int) (atype := .int) (pc := 41) X w_149 rfl rfl (by decide) (by decide) (m := 320) (by decide) (by decide) (by decide) (by decide) dX11_init_41 ?_
  refine lts hf (fun s13 hf => ?_)
  refine b_dputR (j := 5) (pc := 43) X rfl inT11 tyX11 tyX11_ok nmX11 (by decide) w_1085 (Or.inr ⟨rfl, hin, rfl⟩) (tyX11_ok 5 (by decide)) (Or.inr ⟨_, rfl⟩) rfl dX11_init_43 hf (fun o14 s15 hf => ?_)
  refine r_aload_n (pc := 46) X dX11_init_46 0 rfl ?_
  refine r_sipush (v := 320) (pc := 47) X dX11_init_47 (by decide) ?_
  refine r_newa (t := 1) (ty := .int) (atype := .int) (pc := 50) X w_149 rfl rfl (by decide) (by decide) (m := 320) (by decide) (by decide) (by decide) (by decide) dX11_init_50 ?_
  refine lts hf (fun s16 hf => ?_)
  refine b_dputR (j := 6) (pc := 52) X rfl inT11 tyX11 tyX11_ok nmX11 (by decide) w_1086 (Or.inr ⟨rfl, hin, rfl⟩) (tyX11_ok 6 (by decide)) (Or.inr ⟨_, rfl⟩) rfl dX11_init_52 hf (fun o17 s18 hf => ?_)
  refine r_aload_n (pc := 55) X dX11_init_55 0 rfl ?_
  refine r_iconst (v := 5) (pc := 56) X dX11_init_56 (by decide) ?_
  refine r_newa (t := 1) (ty := .int) (atype := .int) (pc := 57) X w_149 rfl rfl (by decide) (by decide) (m := 5) (by decide) (by decide) (by decide) (by decide) dX11_init_57 ?_
  refine lts hf (fun s19 hf => ?_)
  refine b_dputR (j := 7) (pc := 59) X rfl inT11 tyX11 tyX11_ok nmX11 (by decide) w_1087 (Or.inr ⟨rfl, hin, rfl⟩) (tyX11_ok 7 (by decide)) (Or.inr ⟨_, rfl⟩) rfl dX11_init_59 hf (fun o20 s21 hf => ?_)
  refine r_aload_n (pc := 62) X dX11_init_62 0 rfl ?_
  refine r_bipush (v := 64) (pc := 63) X dX11_init_63 (by decide) ?_
  refine r_newa (t := 1) (ty := .int) (atype := .int) (pc := 65) X w_149 rfl rfl (by decide) (by decide) (m := 64) (by decide) (by decide) (by decide) (by decide) dX11_init_65 ?_
  refine lts hf (fun s22 hf => ?_)
  refine b_dputR (j := 18) (pc := 67) X rfl inT11 tyX11 tyX11_ok nmX11 (by decide) w_1098 (Or.inr ⟨rfl, hin, rfl⟩) (tyX11_ok 18 (by decide)) (Or.inr ⟨_, rfl⟩) rfl dX11_init_67 hf (fun o23 s24 hf => ?_)
  refine r_aload_n (pc := 70) X dX11_init_70 0 rfl ?_
  refine r_bipush (v := 64) (pc := 71) X dX11_init_71 (by decide) ?_
  refine r_newa (t := 1) (ty := .int) (atype := .int) (pc := 73) X w_149 rfl rfl (by decide) (by decide) (m := 64) (by decide) (by decide) (by decide) (by decide) dX11_init_73 ?_
  refine lts hf (fun s25 hf => ?_)
  refine b_dputR (j := 20) (pc := 75) X rfl inT11 tyX11 tyX11_ok nmX11 (by decide) w_1100 (Or.inr ⟨rfl, hin, rfl⟩) (tyX11_ok 20 (by decide)) (Or.inr ⟨_, rfl⟩) rfl dX11_init_75 hf (fun o26 s27 hf => ?_)
  refine r_aload_n (pc := 78) X dX11_init_78 0 rfl ?_
  refine r_bipush (v := 64) (pc := 79) X dX11_init_79 (by decide) ?_
  refine r_newa (t := 3) (ty := .boolean) (atype := .boolean) (pc := 81) X w_218 rfl rfl (by decide) (by decide) (m := 64) (by decide) (by decide) (by decide) (by decide) dX11_init_81 ?_
  refine lts hf (fun s28 hf => ?_)
  refine b_dputR (j := 24) (pc := 83) X rfl inT11 tyX11 tyX11_ok nmX11 (by decide) w_1104 (Or.inr ⟨rfl, hin, rfl⟩) (tyX11_ok 24 (by decide)) (Or.inr ⟨_, rfl⟩) rfl dX11_init_83 hf (fun o29 s30 hf => ?_)
  refine r_aload_n (pc := 86) X dX11_init_86 0 rfl ?_
  refine r_bipush (v := 64) (pc := 87) X dX11_init_87 (by decide) ?_
  refine r_newaL (pc := 89) X w_318 (by decide) (m := 64) (by decide) (by decide) (by decide) (by decide) dX11_init_89 ?_
  refine lts hf (fun s31 hf => ?_)
  refine b_dputR (j := 25) (pc := 91) X rfl inT11 tyX11 tyX11_ok nmX11 (by decide) w_1105 (Or.inr ⟨rfl, hin, rfl⟩) (tyX11_ok 25 (by decide)) (Or.inr ⟨_, rfl⟩) rfl dX11_init_91 hf (fun o32 s33 hf => ?_)
  refine r_aload_n (pc := 94) X dX11_init_94 0 rfl ?_
  refine r_bipush (v := 64) (pc := 95) X dX11_init_95 (by decide) ?_
  refine r_newa (t := 3) (ty := .boolean) (atype := .boolean) (pc := 97) X w_218 rfl rfl (by decide) (by decide) (m := 64) (by decide) (by decide) (by decide) (by decide) dX11_init_97 ?_
  refine lts hf (fun s34 hf => ?_)
  refine b_dputR (j := 27) (pc := 99) X rfl inT11 tyX11 tyX11_ok nmX11 (by decide) w_1107 (Or.inr ⟨rfl, hin, rfl⟩) (tyX11_ok 27 (by decide)) (Or.inr ⟨_, rfl⟩) rfl dX11_init_99 hf (fun o35 s36 hf => ?_)
  refine r_aload_n (pc := 102) X dX11_init_102 0 rfl ?_
  refine r_bipush (v := 100) (pc := 103) X dX11_init_103 (by decide) ?_
  refine r_newa (t := 1) (ty := .int) (atype := .int) (pc := 105) X w_149 rfl rfl (by decide) (by decide) (m := 100) (by decide) (by decide) (by decide) (by decide) dX11_init_105 ?_
  refine lts hf (fun s37 hf => ?_)
  refine b_dputR (j := 32) (pc := 107) X rfl inT11 tyX11 tyX11_ok nmX11 (by decide) w_1112 (Or.inr ⟨rfl, hin, rfl⟩) (tyX11_ok 32 (by decide)) (Or.inr ⟨_, rfl⟩) rfl dX11_init_107 hf (fun o38 s39 hf => ?_)
  refine r_aload_n (pc := 110) X dX11_init_110 0 rfl ?_
  refine r_bipush (v := 100) (pc := 111) X dX11_init_111 (by decide) ?_
  refine r_newa (t := 1) (ty := .int) (atype := .int) (pc := 113) X w_149 rfl rfl (by decide) (by decide) (m := 100) (by decide) (by decide) (by decide) (by decide) dX11_init_113 ?_
  refine lts hf (fun s40 hf => ?_)
  refine b_dputR (j := 33) (pc := 115) X rfl inT11 tyX11 tyX11_ok nmX11 (by decide) w_1113 (Or.inr ⟨rfl, hin, rfl⟩) (tyX11_ok 33 (by decide)) (Or.inr ⟨_, rfl⟩) rfl dX11_init_115 hf (fun o41 s42 hf => ?_)
  refine r_aload_n (pc := 118) X dX11_init_118 0 rfl ?_
  refine r_bipush (v := 100) (pc := 119) X dX11_init_119 (by decide) ?_
  refine r_newa (t := 1) (ty := .int) (atype := .int) (pc := 121) X w_149 rfl rfl (by decide) (by decide) (m := 100) (by decide) (by decide) (by decide) (by decide) dX11_init_121 ?_
  refine lts hf (fun s43 hf => ?_)
  refine b_dputR (j := 34) (pc := 123) X rfl inT11 tyX11 tyX11_ok nmX11 (by decide) w_1114 (Or.inr ⟨rfl, hin, rfl⟩) (tyX11_ok 34 (by decide)) (Or.inr ⟨_, rfl⟩) rfl dX11_init_123 hf (fun o44 s45 hf => ?_)
  refine r_aload_n (pc := 126) X dX11_init_126 0 rfl ?_
  refine r_bipush (v := 100) (pc := 127) X dX11_init_127 (by decide) ?_
  refine r_newa (t := 1) (ty := .int) (atype := .int) (pc := 129) X w_149 rfl rfl (by decide) (by decide) (m := 100) (by decide) (by decide) (by decide) (by decide) dX11_init_129 ?_
  refine lts hf (fun s46 hf => ?_)
  refine b_dputR (j := 35) (pc := 131) X rfl inT11 tyX11 tyX11_ok nmX11 (by decide) w_1115 (Or.inr ⟨rfl, hin, rfl⟩) (tyX11_ok 35 (by decide)) (Or.inr ⟨_, rfl⟩) rfl dX11_init_131 hf (fun o47 s48 hf => ?_)
  refine r_aload_n (pc := 134) X dX11_init_134 0 rfl ?_
  refine r_sipush (v := 1008) (pc := 135) X dX11_init_135 (by decide) ?_
  refine r_newa (t := 3) (ty := .boolean) (atype := .boolean) (pc := 138) X w_218 rfl rfl (by decide) (by decide) (m := 1008) (by decide) (by decide) (by decide) (by decide) dX11_init_138 ?_
  refine lts hf (fun s49 hf => ?_)
  refine b_dputR (j := 37) (pc := 140) X rfl inT11 tyX11 tyX11_ok nmX11 (by decide) w_1117 (Or.inr ⟨rfl, hin, rfl⟩) (tyX11_ok 37 (by decide)) (Or.inr ⟨_, rfl⟩) rfl dX11_init_140 hf (fun o50 s51 hf => ?_)
  refine r_aload_n (pc := 143) X dX11_init_143 0 rfl ?_
  refine r_bipush (v := 126) (pc := 144) X dX11_init_144 (by decide) ?_
  refine r_newa (t := 1) (ty := .int) (atype := .int) (pc := 146) X w_149 rfl rfl (by decide) (by decide) (m := 126) (by decide) (by decide) (by decide) (by decide) dX11_init_146 ?_
  refine lts hf (fun s52 hf => ?_)
  refine b_dputR (j := 38) (pc := 148) X rfl inT11 tyX11 tyX11_ok nmX11 (by decide) w_1118 (Or.inr ⟨rfl, hin, rfl⟩) (tyX11_ok 38 (by decide)) (Or.inr ⟨_, rfl⟩) rfl dX11_init_148 hf (fun o53 s54 hf => ?_)
  refine r_aload_n (pc := 151) X dX11_init_151 0 rfl ?_
  refine r_bipush (v := 126) (pc := 152) X dX11_init_152 (by decide) ?_
  refine r_newa (t := 1) (ty := .int) (atype := .int) (pc := 154) X w_149 rfl rfl (by decide) (by decide) (m := 126) (by decide) (by decide) (by decide) (by decide) dX11_init_154 ?_
  refine lts hf (fun s55 hf => ?_)
  refine b_dputR (j := 39) (pc := 156) X rfl inT11 tyX11 tyX11_ok nmX11 (by decide) w_1119 (Or.inr ⟨rfl, hin, rfl⟩) (tyX11_ok 39 (by decide)) (Or.inr ⟨_, rfl⟩) rfl dX11_init_156 hf (fun o56 s57 hf => ?_)
  refine r_aload_n (pc := 159) X dX11_init_159 0 rfl ?_
  refine r_iconst (v := 4) (pc := 160) X dX11_init_160 (by decide) ?_
  refine r_newa (t := 1) (ty := .int) (atype := .int) (pc := 161) X w_149 rfl rfl (by decide) (by decide) (m := 4) (by decide) (by decide) (by decide) (by decide) dX11_init_161 ?_
  refine lts hf (fun s58 hf => ?_)
  refine b_dputR (j := 41) (pc := 163) X rfl inT11 tyX11 tyX11_ok nmX11 (by decide) w_1121 (Or.inr ⟨rfl, hin, rfl⟩) (tyX11_ok 41 (by decide)) (Or.inr ⟨_, rfl⟩) rfl dX11_init_163 hf (fun o59 s60 hf => ?_)
  refine r_aload_n (pc := 166) X dX11_init_166 0 rfl ?_
  refine r_iconst (v := 4) (pc := 167) X dX11_init_167 (by decide) ?_
  refine r_newa (t := 1) (ty := .int) (atype := .int) (pc := 168) X w_149 rfl rfl (by decide) (by decide) (m := 4) (by decide) (by decide) (by decide) (by decide) dX11_init_168 ?_
  refine lts hf (fun s61 hf => ?_)
  refine b_dputR (j := 42) (pc := 170) X rfl inT11 tyX11 tyX11_ok nmX11 (by decide) w_1122 (Or.inr ⟨rfl, hin, rfl⟩) (tyX11_ok 42 (by decide)) (Or.inr ⟨_, rfl⟩) rfl dX11_init_170 hf (fun o62 s63 hf => ?_)
  refine r_aload_n (pc := 173) X dX11_init_173 0 rfl ?_
  refine r_iconst (v := 4) (pc := 174) X dX11_init_174 (by decide) ?_
  refine r_newa (t := 1) (ty := .int) (atype := .int) (pc := 175) X w_149 rfl rfl (by decide) (by decide) (m := 4) (by decide) (by decide) (by decide) (by decide) dX11_init_175 ?_
  refine lts hf (fun s64 hf => ?_)
  refine b_dputR (j := 43) (pc := 177) X rfl inT11 tyX11 tyX11_ok nmX11 (by decide) w_1123 (Or.inr ⟨rfl, hin, rfl⟩) (tyX11_ok 43 (by decide)) (Or.inr ⟨_, rfl⟩) rfl dX11_init_177 hf (fun o65 s66 hf => ?_)
  refine r_aload_n (pc := 180) X dX11_init_180 0 rfl ?_
  refine r_iconst (v := 4) (pc := 181) X dX11_init_181 (by decide) ?_
  refine r_newa (t := 3) (ty := .boolean) (atype := .boolean) (pc := 182) X w_218 rfl rfl (by decide) (by decide) (m := 4) (by decide) (by decide) (by decide) (by decide) dX11_init_182 ?_
  refine lts hf (fun s67 hf => ?_)
  refine b_dputR (j := 44) (pc := 184) X rfl inT11 tyX11 tyX11_ok nmX11 (by decide) w_1124 (Or.inr ⟨rfl, hin, rfl⟩) (tyX11_ok 44 (by decide)) (Or.inr ⟨_, rfl⟩) rfl dX11_init_184 hf (fun o68 s69 hf => ?_)
  refine r_aload_n (pc := 187) X dX11_init_187 0 rfl ?_
  refine r_iconst (v := 4) (pc := 188) X dX11_init_188 (by decide) ?_
  refine r_newa (t := 1) (ty := .int) (atype := .int) (pc := 189) X w_149 rfl rfl (by decide) (by decide) (m := 4) (by decide) (by decide) (by decide) (by decide) dX11_init_189 ?_
  refine lts hf (fun s70 hf => ?_)
  refine b_dputR (j := 45) (pc := 191) X rfl inT11 tyX11 tyX11_ok nmX11 (by decide) w_1125 (Or.inr ⟨rfl, hin, rfl⟩) (tyX11_ok 45 (by decide)) (Or.inr ⟨_, rfl⟩) rfl dX11_init_191 hf (fun o71 s72 hf => ?_)
  refine r_aload_n (pc := 194) X dX11_init_194 0 rfl ?_
  refine r_iconst (v := 4) (pc := 195) X dX11_init_195 (by decide) ?_
  refine r_newa (t := 1) (ty := .int) (atype := .int) (pc := 196) X w_149 rfl rfl (by decide) (by decide) (m := 4) (by decide) (by decide) (by decide) (by decide) dX11_init_196 ?_
  refine lts hf (fun s73 hf => ?_)
  refine b_dputR (j := 46) (pc := 198) X rfl inT11 tyX11 tyX11_ok nmX11 (by decide) w_1126 (Or.inr ⟨rfl, hin, rfl⟩) (tyX11_ok 46 (by decide)) (Or.inr ⟨_, rfl⟩) rfl dX11_init_198 hf (fun o74 s75 hf => ?_)
  refine r_aload_n (pc := 201) X dX11_init_201 0 rfl ?_
  refine r_iconst (v := 4) (pc := 202) X dX11_init_202 (by decide) ?_
  refine r_newa (t := 1) (ty := .int) (atype := .int) (pc := 203) X w_149 rfl rfl (by decide) (by decide) (m := 4) (by decide) (by decide) (by decide) (by decide) dX11_init_203 ?_
  refine lts hf (fun s76 hf => ?_)
  refine b_dputR (j := 47) (pc := 205) X rfl inT11 tyX11 tyX11_ok nmX11 (by decide) w_1127 (Or.inr ⟨rfl, hin, rfl⟩) (tyX11_ok 47 (by decide)) (Or.inr ⟨_, rfl⟩) rfl dX11_init_205 hf (fun o77 s78 hf => ?_)
  refine r_aload_n (pc := 208) X dX11_init_208 0 rfl ?_
  refine r_bipush (v := 20) (pc := 209) X dX11_init_209 (by decide) ?_
  refine r_newa (t := 1) (ty := .int) (atype := .int) (pc := 211) X w_149 rfl rfl (by decide) (by decide) (m := 20) (by decide) (by decide) (by decide) (by decide) dX11_init_211 ?_
  refine lts hf (fun s79 hf => ?_)
  refine b_dputR (j := 48) (pc := 213) X rfl inT11 tyX11 tyX11_ok nmX11 (by decide) w_1128 (Or.inr ⟨rfl, hin, rfl⟩) (tyX11_ok 48 (by decide)) (Or.inr ⟨_, rfl⟩) rfl dX11_init_213 hf (fun o80 s81 hf => ?_)
  refine r_aload_n (pc := 216) X dX11_init_216 0 rfl ?_
  refine r_bipush (v := 20) (pc := 217) X dX11_init_217 (by decide) ?_
  refine r_newa (t := 1) (ty := .int) (atype := .int) (pc := 219) X w_149 rfl rfl (by decide) (by decide) (m := 20) (by decide) (by decide) (by decide) (by decide) dX11_init_219 ?_
  refine lts hf (fun s82 hf => ?_)
  refine b_dputR (j := 49) (pc := 221) X rfl inT11 tyX11 tyX11_ok nmX11 (by decide) w_1129 (Or.inr ⟨rfl, hin, rfl⟩) (tyX11_ok 49 (by decide)) (Or.inr ⟨_, rfl⟩) rfl dX11_init_221 hf (fun o83 s84 hf => ?_)
  refine r_aload_n (pc := 224) X dX11_init_224 0 rfl ?_
  refine r_sipush (v := 4000) (pc := 225) X dX11_init_225 (by decide) ?_
  refine r_newa (t := 1) (ty := .int) (atype := .int) (pc := 228) X w_149 rfl rfl (by decide) (by decide) (m := 4000) (by decide) (by decide) (by decide) (by decide) dX11_init_228 ?_
  refine lts hf (fun s85 hf => ?_)
  refine b_dputR (j := 51) (pc := 230) X rfl inT11 tyX11 tyX11_ok nmX11 (by decide) w_1131 (Or.inr ⟨rfl, hin, rfl⟩) (tyX11_ok 51 (by decide)) (Or.inr ⟨_, rfl⟩) rfl dX11_init_230 hf (fun o86 s87 hf => ?_)
  refine r_aload_n (pc := 233) X dX11_init_233 0 rfl ?_
  refine r_sipush (v := 4000) (pc := 234) X dX11_init_234 (by decide) ?_
  refine r_newa (t := 1) (ty := .int) (atype := .int) (pc := 237) X w_149 rfl rfl (by decide) (by decide) (m := 4000) (by decide) (by decide) (by decide) (by decide) dX11_init_237 ?_
  refine lts hf (fun s88 hf => ?_)
  refine b_dputR (j := 53) (pc := 239) X rfl inT11 tyX11 tyX11_ok nmX11 (by decide) w_1133 (Or.inr ⟨rfl, hin, rfl⟩) (tyX11_ok 53 (by decide)) (Or.inr ⟨_, rfl⟩) rfl dX11_init_239 hf (fun o89 s90 hf => ?_)
  refine r_iconst (v := 0) (pc := 242) X dX11_init_242 (by decide) ?_
  refine r_istore_n (pc := 243) (lv' := [(0, rfB B p0), (1, .int 0)]) X dX11_init_243 (by decide) [1, 0] (by simp [lv_pick, rfB_cat, catI, catL, catR, show ((1 : Fin 4) : Nat) = 1 from rfl]) ?_
  exact c_f_M_init_b244 X hr _ hf
