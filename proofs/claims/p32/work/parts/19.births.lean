/-! calls whose room is apart from their cost; after vx_back, vx_callBack, vx_runV, vx_runS -/
section VZ
section
variable {l : Launch} {R : Room} {p : Program} {e : Env} {below : List Frame} {s : State} {sargs : Array Value} {y : MethodName} {len W9 : Nat}
theorem vz_back {ws : List Cond} {rm : Room} {Pc : Array Value → State → Prop} {Qc : Array Value → State → Outcome → State → Prop} {XC : String → State → State → Prop} {mc ms rc rs : Nat} {free : Addr → Prop} {bytes : ByteArray} {maxL : Nat} {ret : Option FieldType}
    (hM : vx_Met l y ws rm Pc Qc XC mc ms free) (hblind : FrameBlind Pc) (hrc : rm.cells = rc) (hrs : rm.slots = rs)
    (hframes : rm.frames + 1 ≤ R.frames) (hlocals : W9 + (maxL + 11) + rm.locals ≤ R.locals)
    (hws : ∀ w ∈ ws, ∀ a' U, s.WarmedH U.vm → w.before a' U = true) (hcode : Cond.code y bytes maxL ret ∈ ws) (hinit : ∀ a' U, s.WarmedH U.vm → (Cond.initialized y.cls).before a' U = true) :
    vx_Back l R p e below s sargs y len W9 (PreOf R rc rs Pc) (PostOf Qc mc ms free) (vx_Post XC mc ms free) := by
  intro m meth c A g ig mk a X hg hsize hdg hW hn hp
  have h1 : (headSpec ws rm).pre.before a A.U = true := atoms_intro fun w hw => hws w hw _ _ X.warmed
  have h2 : (Cond.code y bytes maxL ret).before a A.U = true := hws _ hcode _ _ X.warmed
  have h3 : (Cond.initialized y.cls).before a A.U = true := hinit _ _ X.warmed
  have h4 : A.cells + (headSpec ws rm).room.cells ≤ R.cells := by rw [show (headSpec ws rm).room.cells = rc from hrc]; exact hp.1
  have h5 : A.slots + (headSpec ws rm).room.slots ≤ R.slots := by rw [show (headSpec ws rm).room.slots = rs from hrs]; exact hp.2.1
  have hPc : Pc a (A.U.calling g mk a) := hblind _ _ _ _ hp.2.2
  obtain ⟨U, Ls, c0, s0⟩ := A
  dsimp only [Pt.U, Pt.locs, Pt.cells, Pt.slots] at h1 h2 h3 h4 h5 X hn hPc ⊢
  obtain ⟨methY, cY, hmY, hcY, -, hlY, -, -, -, -⟩ := Cond.code_spec hn h2
  obtain ⟨kY, hkY, -⟩ := className_of_methodNamed hn
  have hinitY : kY.init = .initialized := Cond.initialized_spec (findClass_of_methodNamed hn) hkY h3
  have h : At U g.method c below := by rw [hg]; exact X.here
  have hlocals9 : W9 + (maxL + 11) + (headSpec ws rm).room.locals ≤ R.locals := hlocals
  have happ : (headSpec ws rm).appliesLoose y e.platform (U.calling g mk a) = true :=
    Spec.appliesLoose_calling (g := g) h hdg hn hkY hinitY
      (X.room_calling (g := g) (R' := (headSpec ws rm).room) hsize hmY hcY hframes (by rw [hlY]; omega) h4 h5) h1
  obtain ⟨mid, hmid⟩ := h.above
  have hfr : (U.setTop g).frames = (.java g :: mid) ++ below := by rw [State.frames_setTop' g h.top, hmid]; rfl
  obtain ⟨o, s₂, hsteps, -, hend, hq⟩ := Steps.callFree hM p X.admits X.cas X.clock (acts := []) hfr happ hPc trivial
  have hq' : vx_Q Qc XC mc ms free a (U.calling g mk a) o s₂ := hq
  rw [State.frames_setTop' g h.top] at hend
  obtain ⟨g₀, hg0⟩ := Option.isSome_iff_exists.mp h.top
  obtain ⟨r, hr⟩ := State.topJava?_eq_some.mp hg0
  have hr' : (({ U with heap := s₂.heap, slotsUsed := s₂.slotsUsed } : State).setVm s₂.vm).frames = .java g₀ :: r := hr
  rcases hq' with ⟨hqc, L, hfe, hL⟩ | ⟨q, rfl, E, ce, L, hx, hce, hcv, hcl, hW₂, hsm, hL⟩
  · obtain ⟨⟨v, rfl⟩, hW₂, e2, q2, q3, q4, q5, q6⟩ := id hfe
    have e3 : s₂ = ({ (U.calling g mk a).setFrames s₂.frames with heap := s₂.heap, slotsUsed := s₂.slotsUsed } : State).setVm s₂.vm := by
      have : s₂ = ({ s₂ with vm := (U.calling g mk a).vm } : State).setVm s₂.vm := rfl
      rw [e2] at this
      exact this
    obtain ⟨c₂, i₂, len₂, hc₂, hd₂, hf₂⟩ := hend
    have hW' : U.WarmedH s₂.vm := hW₂
    have hcc : c₂ = c := by
      have h1 : s₂.code? g.method = U.code? g.method := by
        rw [State.code?_eq, State.code?_eq, hW'.alike.method?]
      exact Option.some.inj (hc₂.symm.trans (h1.trans h.code))
    subst hcc
    have hlen : len₂ = len := by rw [hdg] at hd₂; cases hd₂; rfl
    subst hlen
    have hs₂ : s₂ = (({ U with heap := s₂.heap, slotsUsed := s₂.slotsUsed } : State).setVm s₂.vm).setTop { g with pc := g.pc + len₂, stack := v.toList ++ g.stack } := by
      refine e3.trans ?_
      rw [hf₂, State.calling_eq h.top, State.setFrames_setFrames, State.setTop_of_frames _ hr', hr]
      rfl
    have hsame : U.sameButNew ({ U with heap := s₂.heap, slotsUsed := s₂.slotsUsed } : State) L mc ms := by
      refine ⟨?_, q2, q3, q4, q5, q6⟩
      obtain ⟨t, ht, -⟩ := State.frames_cons hr
      show ({ U with heap := s₂.heap, slotsUsed := s₂.slotsUsed } : State) = { U.setFrames U.frames with heap := s₂.heap, slotsUsed := s₂.slotsUsed }
      rw [State.setFrames_self ht]
    subst hg
    refine Or.inl ⟨v, ⟨(({ U with heap := s₂.heap, slotsUsed := s₂.slotsUsed } : State).setVm s₂.vm), Ls ++ L, c0 + mc, s0 + ms⟩,
      ⟨X.admits, X.cas, X.clock, X.frames, X.room, X.hears, X.method, X.code, (X.here.setHeapUsed s₂.heap s₂.slotsUsed).setVm hW'.alike, X.tail, State.WarmedH.trans X.warmed hW', X.limits, X.bytes, X.same.trans (hsame.setVm s.vm)⟩,
      ⟨g, mk, s₂, L, rfl, rfl, hqc, rfl, hL, rfl, rfl⟩, ?_⟩
    show Steps p.tables e below _ ((({ U with heap := s₂.heap, slotsUsed := s₂.slotsUsed } : State).setVm s₂.vm).setTop { g with pc := g.pc + len₂, stack := v.toList ++ g.stack })
    rw [← hs₂]
    exact hsteps
  · obtain ⟨e2, q2, q3, q4, q5, q6⟩ := id hsm
    have e3 : s₂ = ({ (U.calling g mk a).setFrames s₂.frames with heap := s₂.heap, slotsUsed := s₂.slotsUsed } : State).setVm s₂.vm := by
      have : s₂ = ({ s₂ with vm := (U.calling g mk a).vm } : State).setVm s₂.vm := rfl
      rw [e2] at this
      exact this
    have hf₂ : s₂.frames = .throwing q :: .java g :: U.frames.tail := hend
    have hW' : U.WarmedH s₂.vm := hW₂
    have hs₂ : s₂ = ((({ U with heap := s₂.heap, slotsUsed := s₂.slotsUsed } : State).setVm s₂.vm).setTop g).pushFrame (.throwing q) := by
      refine e3.trans ?_
      rw [hf₂, State.calling_eq h.top, State.setFrames_setFrames, State.pushFrame, State.frames_setTop _ hr', State.setTop_of_frames _ hr', State.setFrames_setFrames, hr]
      rfl
    have hsame : U.sameButNew ({ U with heap := s₂.heap, slotsUsed := s₂.slotsUsed } : State) L mc ms := by
      refine ⟨?_, q2, q3, q4, q5, q6⟩
      obtain ⟨t, ht, -⟩ := State.frames_cons hr
      show ({ U with heap := s₂.heap, slotsUsed := s₂.slotsUsed } : State) = { U.setFrames U.frames with heap := s₂.heap, slotsUsed := s₂.slotsUsed }
      rw [State.setFrames_self ht]
    subst hg
    refine Or.inr ⟨q, ⟨(({ U with heap := s₂.heap, slotsUsed := s₂.slotsUsed } : State).setVm s₂.vm), Ls ++ L, c0 + mc, s0 + ms⟩,
      ⟨X.admits, X.cas, X.clock, X.frames, X.room, X.hears, X.method, X.code, (X.here.setHeapUsed s₂.heap s₂.slotsUsed).setVm hW'.alike, X.tail, State.WarmedH.trans X.warmed hW', X.limits, X.bytes, X.same.trans (hsame.setVm s.vm)⟩,
      ⟨g, mk, s₂, L, E, ce, rfl, rfl, hx, hce, hcv, hcl, rfl, hL, rfl, rfl⟩, ?_⟩
    show Steps p.tables e below _ (((({ U with heap := s₂.heap, slotsUsed := s₂.slotsUsed } : State).setVm s₂.vm).setTop g).pushFrame (.throwing q))
    rw [← hs₂]
    exact hsteps
end
section
variable {p : Program} {l : Launch} {e : Env} {R : Room} {s : State} {m : MethodId} {args : Array Value} {below : List Frame} {meth : Method} {c : Code} {H : Heap} {locs : List Loc} {cells slots : Nat}
variable {y : MethodName} {bytes cc : ByteArray} {maxL nL mc ms rc rs n index : Nat} {ret : Option FieldType} {ws : List Cond} {rm : Room} {Pc : Array Value → State → Prop} {Qc : Array Value → State → Outcome → State → Prop} {XC : String → State → State → Prop} {free : Addr → Prop} {Ts : List Cond} {own C : String} {b : Addr} {As rest : List Value} {g : JFrame}
theorem vz_callBack (cb : CallB R s args own index y bytes maxL ret ws rm rc rs n) (hM : vx_Met l y ws rm Pc Qc XC mc ms free) (hbl : FrameBlind Pc) : vx_Back l R p e below s args y 3 8 (PreOf R rc rs Pc) (PostOf Qc mc ms free) (vx_Post XC mc ms free) := by
  obtain ⟨hrc, hrs, hfr, hlo, hws, hcw, -, hini, -⟩ := cb
  exact vz_back (bytes := bytes) (maxL := maxL) (ret := ret) hM hbl hrc hrs hfr hlo hws hcw (fun a' U hW => word_at hW (Or.inl (by first | rfl | simp [Cond.onTables, Cond.keeps, Cond.steady])) hini)
theorem vz_runV (S : CallFix p m c cc nL s args Ts own) (hM : vx_Met l y ws rm Pc Qc XC mc ms free) (cw : CallW R s args own C index y bytes maxL ret ws rm rc rs n) (hp : PreV s H C b Pc As)
    (hg : g.method = m) (hn : As.length = n) (hsize : g.locals.size = nL) (hstack : g.stack = As.reverse ++ .ref b :: rest) (hW : 2 * g.monitorRoom + (rest.map fun v => v.category).sum ≤ 8) (hdg : decode cc g.pc = .ok (.invokevirtual index, 3)) (hf : cells + rc ≤ R.cells ∧ slots + rs ≤ R.slots) :
    vx_Run p l e R s m args below meth c H locs cells slots mc ms g rest (Qc (Value.ref b :: As).toArray) XC free := by
  have hK : vx_Back l R p e below s args y 3 8 (PreOf R rc rs Pc) (PostOf Qc mc ms free) (vx_Post XC mc ms free) := vz_callBack cw.1 hM hp.1
  obtain ⟨⟨-, -, -, -, -, -, hcode, -, hy, hlen, hl⟩, hin, hse⟩ := cw
  obtain ⟨hx, hb, hml, ho, -⟩ := S
  obtain ⟨-, ⟨cellB, hcB, hoB, hclB⟩, hPc⟩ := hp
  intro T hT X
  rcases vx_callV X hx (C := C) (bytes := bytes) (maxL := maxL) (ret := ret) ho hl hin hse hcode hy hK (by rw [hT]; exact hcB) hoB hclB hg (hsize.trans hml.symm) (argsL := As) (rest := rest) (fun sig h => hn.trans (hlen sig h)) hstack hW (by rw [hb]; exact hdg)
    (fun vm₁ hW₁ => ⟨hf.1, hf.2, hPc (T.setVm vm₁) hT hW₁⟩) with ⟨v, vm₁, ⟨U', l2, c2, s2⟩, hW₁, X', ⟨g', mk, t, L, e1, e2, hq, h1, hL, h2, h3⟩, st⟩ | ⟨q, vm₁, ⟨U', l2, c2, s2⟩, hW₁, X', ⟨g', mk, t, L, E, ce, e1, e2, hq, hce, hcv, hcl, h1, hL, h2, h3⟩, st⟩
  · dsimp only [Pt.U, Pt.locs, Pt.cells, Pt.slots] at X' e1 e2 h1 h2 h3 st
    subst h1; subst h2; subst h3
    exact Or.inl ⟨v, (T.setVm vm₁).calling g' mk (Value.ref b :: As).toArray, t, U', L, hT, X', hL, e1, e2, hq, st⟩
  · dsimp only [Pt.U, Pt.locs, Pt.cells, Pt.slots] at X' e1 e2 h1 h2 h3 st hcl
    subst h1; subst h2; subst h3
    exact Or.inr ⟨q, (T.setVm vm₁).calling g' mk (Value.ref b :: As).toArray, t, U', L, E, ce, hT, X', hL, e1, e2, hq, hce, hcv, vx_cls hW₁ hcl, st⟩
theorem vz_runS (S : CallFix p m c cc nL s args Ts own) (hM : vx_Met l y ws rm Pc Qc XC mc ms free) (cw : CallB R s args own index y bytes maxL ret ws rm rc rs n ∧ (Cond.static y).before args s = true) (hp : PreS s H Pc As)
    (hg : g.method = m) (hn : As.length = n) (hsize : g.locals.size = nL) (hstack : g.stack = As.reverse ++ rest) (hW : 2 * g.monitorRoom + (rest.map fun v => v.category).sum ≤ 8) (hdg : decode cc g.pc = .ok (.invokestatic index, 3)) (hf : cells + rc ≤ R.cells ∧ slots + rs ≤ R.slots) :
    vx_Run p l e R s m args below meth c H locs cells slots mc ms g rest (Qc As.toArray) XC free := by
  have hK : vx_Back l R p e below s args y 3 8 (PreOf R rc rs Pc) (PostOf Qc mc ms free) (vx_Post XC mc ms free) := vz_callBack cw.1 hM hp.1
  obtain ⟨⟨-, -, -, -, -, -, hcode, hini, hy, hlen, hl⟩, hstt⟩ := cw
  obtain ⟨hx, hb, hml, ho, -⟩ := S
  intro T hT X
  rcases vx_callS X hx (bytes := bytes) (maxL := maxL) (ret := ret) ho hl hstt hini hcode hy hK hg (hsize.trans hml.symm) (argsL := As) (rest := rest) (fun sig h => hn.trans (hlen sig h)) hstack hW (by rw [hb]; exact hdg)
    (fun vm₁ hW₁ => ⟨hf.1, hf.2, hp.2 (T.setVm vm₁) hT hW₁⟩) with ⟨v, vm₁, ⟨U', l2, c2, s2⟩, hW₁, X', ⟨g', mk, t, L, e1, e2, hq, h1, hL, h2, h3⟩, st⟩ | ⟨q, vm₁, ⟨U', l2, c2, s2⟩, hW₁, X', ⟨g', mk, t, L, E, ce, e1, e2, hq, hce, hcv, hcl, h1, hL, h2, h3⟩, st⟩
  · dsimp only [Pt.U, Pt.locs, Pt.cells, Pt.slots] at X' e1 e2 h1 h2 h3 st
    subst h1; subst h2; subst h3
    exact Or.inl ⟨v, (T.setVm vm₁).calling g' mk As.toArray, t, U', L, hT, X', hL, e1, e2, hq, st⟩
  · dsimp only [Pt.U, Pt.locs, Pt.cells, Pt.slots] at X' e1 e2 h1 h2 h3 st hcl
    subst h1; subst h2; subst h3
    exact Or.inr ⟨q, (T.setVm vm₁).calling g' mk As.toArray, t, U', L, E, ce, hT, X', hL, e1, e2, hq, hce, hcv, vx_cls hW₁ hcl, st⟩
end
end VZ
/-! rows of V where cells are born and exceptions leave -/
def NCs : List (String × String) := [("java/lang/IllegalStateException", "java/lang/IllegalArgumentException"), ("java/lang/IndexOutOfBoundsException", "java/lang/IllegalArgumentException"), ("java/util/NoSuchElementException", "java/lang/IllegalArgumentException"), ("java/lang/IllegalArgumentException", "java/lang/IllegalStateException"), ("java/lang/IndexOutOfBoundsException", "java/lang/IllegalStateException"), ("java/util/NoSuchElementException", "java/lang/IllegalStateException"), ("java/lang/IllegalArgumentException", "java/lang/IndexOutOfBoundsException"), ("java/lang/IllegalStateException", "java/lang/IndexOutOfBoundsException"), ("java/util/NoSuchElementException", "java/lang/IndexOutOfBoundsException")]
/-- what a thrower asks of the machine beside KK -/
def KE (B : Nat) (U : State) : Prop := vx_Zq Bundle.tN "UNASSIGNED_STACK" Bundle.steD (fun q => B ≤ q) U U.heap ∧ vx_Zq Bundle.tN "SUPPRESSED_SENTINEL" Bundle.listD (fun q => B ≤ q) U U.heap ∧ (∀ (k : Nat) (tx : String), Cond.stringRef "Pagerloom" k tx ∈ lw_tbl → ∃ sa, vk_R "Pagerloom" k tx sa U) ∧ (∀ x, Cond.declares x ∈ lw_tbl → va_Nw (.declares x) U) ∧ (∀ a b, Cond.castable a b ∈ lw_tbl → va_Nw (.castable a b) U) ∧ ∀ q ∈ NCs, va_Nc q.1 q.2 U
theorem KE.to {B : Nat} {s U : State} {locs : List Loc} (hW : s.WarmedH U.vm) (h : KE B s) (hS : va_S (fun q => B ≤ q) s.heap U.heap locs) : KE B U :=
  ⟨vx_Zq.moved hW.alike (h.1.kept hS.2.1), vx_Zq.moved hW.alike (h.2.1.kept hS.2.1), fun k tx hm => (h.2.2.1 k tx hm).elim fun sa hv => ⟨sa, vk_R.warm hW hv⟩, fun x hm => va_Nw.warmD hW (h.2.2.2.1 x hm), fun a b hm => va_Nw.warmC hW (h.2.2.2.2.1 a b hm), fun q hq => va_Nc.moved hW.alike (h.2.2.2.2.2 q hq)⟩
def KX (D : DD) (B : Nat) (U : State) : Prop := KK D U ∧ KE B U
abbrev Ou : Type := Option Value ⊕ String
def QXr (D : DD) (B : Nat) (w : Bool) (σ' : St) (o : Ou) : Array Value → State → Outcome → State → Prop := fun a st oc t => ∃ v, o = .inl v ∧ QR D B w σ' v a st oc t
def QXx (D : DD) (B : Nat) (w : Bool) (σ' : St) (o : Ou) : String → State → State → Prop := fun E st t => o = .inr E ∧ Pic D B w σ' t.heap ∧ va_F (fun q => B ≤ q) st t
/-- a contract with births and exceptions: the room rc rs, the cost mc ms -/
def CX (w : Bool) (y : MethodName) (cy : Cond) (fr lo rc rs : Nat) (as : Nat → List Value) (σ : St) (out : Nat → Ou) (σ' : St) (mc ms : Nat) : Prop :=
  ∀ (l : Launch) (D : DD) (B : Nat), l.stackTraces = false → vx_Met l y (cy :: WT) { frames := fr, cells := rc, slots := rs, locals := lo } (va_Pc (as B) (fun U => Pic D B w σ U.heap ∧ KX D B U)) (QXr D B w σ' (out B)) (QXx D B w σ' (out B)) mc ms (fun q => B ≤ q)
abbrev QX (Γ : Ga) (D : DD) (B : Nat) (w : Bool) (σ' : St) (o : Ou) (mc ms : Nat) : State → Prop := vx_MQ (Gb Γ) (QXr D B w σ' o) (QXx D B w σ' o) (Ga' Γ) (Gs Γ) mc ms (fun q => B ≤ q)
/-- what is fixed in a thrower's walk beside Cx -/
def Xx (Γ : Ga) (B : Nat) : Prop := Γ.2.1.stackTraces = false ∧ KE B (Gs Γ) ∧ ∀ x ∈ (Gc Γ).exceptionTable.toList, False
/-- the room up to the size Z; the cost up to now -/
def RZ (Γ : Ga) (B Z : Nat) : Nat := B + Z - (Gs Γ).heap.size
def kz (Γ : Ga) (B Z : Nat) (σ : St) : Nat := min (RZ Γ B (sz σ)) (RZ Γ B Z)
theorem kz_l {Γ : Ga} {B Z : Nat} {σ : St} : kz Γ B Z σ ≤ RZ Γ B (sz σ) := Nat.min_le_left _ _
theorem kz_r {Γ : Ga} {B Z : Nat} {σ : St} : kz Γ B Z σ ≤ RZ Γ B Z := Nat.min_le_right _ _
theorem kz_eq {Γ : Ga} {B Z : Nat} {σ σ1 : St} (h : sz σ1 = sz σ) : kz Γ B Z σ1 = kz Γ B Z σ := by unfold kz; rw [h]
abbrev RM (Γ : Ga) (B Z fr lo : Nat) : Room := { frames := fr, cells := RZ Γ B Z, slots := 12 * RZ Γ B Z, locals := lo }
theorem V.mono {Γ : Ga} {D : DD} {B : Nat} {w : Bool} {nL : Nat} {Q : State → Prop} {k n k' n' : Nat} {σ : St} {pc : Nat} {lv : List (Nat × Value)} {st : List Value} (h1 : k ≤ k') (h2 : n ≤ n') (h : V Γ D B w nL Q k' n' σ pc lv st) : V Γ D B w nL Q k n σ pc lv st :=
  fun H locs ls cs ss hP hS hl hk hn => h H locs ls cs ss hP hS hl (Nat.le_trans hk h1) (Nat.le_trans hn h2)
theorem CX.of {w : Bool} {y : MethodName} {bytes : ByteArray} {maxL : Nat} {ret : Option FieldType} {fr lo rc rs : Nat} {as : Nat → List Value} {σ : St} {out : Nat → Ou} {σ' : St} {mc ms : Nat} (lv : Nat → List (Nat × Value))
    (hy : plainName y.cls = true) (hlv : ∀ B, lv_args 0 (as B) = lv B) (hln : ∀ B, (lg_sl (as B)).length ≤ maxL)
    (hV : ∀ (Γ : Ga) (D : DD) (B : Nat), Cx Γ y.cls bytes maxL D B { frames := fr, cells := rc, slots := rs, locals := lo } → Xx Γ B → (Gme Γ).sig.returnType = ret → (Gme Γ).name = y.name → (Gs Γ).heap.size = B + sz σ → V Γ D B w maxL (QX Γ D B w σ' (out B) mc ms) 0 0 σ 0 (lv B) []) :
    CX w y (Cond.code y bytes maxL ret) fr lo rc rs as σ out σ' mc ms := by
  intro l D B hl0
  refine vx_ofW (cc := bytes) (maxL := maxL) (ret := ret) hy rfl ?_
  intro p e s m args below meth c s₁ Bd hml hno hv
  obtain ⟨rfl, hP, hK, hE⟩ := hv
  have hts := atoms_spec (ws := Cond.code y bytes maxL ret :: WT) Bd.pre
  have hown : s.vm.findClass y.cls = some m.cls := findClass_of_methodNamed Bd.named
  have hl := lv_entry (as B) (n := maxL) (hln B)
  rw [lg_entry_eq]
  rw [hlv B] at hl
  have hB : B ≤ s.heap.size := by rw [hP.1]; omega
  exact hV (p, l, e, _, s, m, _, below, meth, c) D B ⟨Bd.exec, Bd.bytes, hml, hown, fun x hx => hts x (List.mem_cons_of_mem _ hx), hK, Bd.notSynchronized, hB, rfl⟩ ⟨hl0, hE, hno⟩ Bd.returns (name_of_methodNamed Bd.named Bd.method).1 hP.1 s.heap [] _ 0 0 hP va_S.rf hl (Nat.le_refl _) (Nat.le_refl _)
/-- inside a reading: the room up to Z, the cost as much as is born -/
theorem CX.ofZ {w : Bool} {y : MethodName} {bytes : ByteArray} {maxL : Nat} {ret : Option FieldType} {fr lo Z : Nat} {as : Nat → List Value} {σ : St} {out : Nat → Ou} {σ' : St} (lv : Nat → List (Nat × Value))
    (hy : plainName y.cls = true) (hlv : ∀ B, lv_args 0 (as B) = lv B) (hln : ∀ B, (lg_sl (as B)).length ≤ maxL)
    (hV : ∀ (Γ : Ga) (D : DD) (B : Nat), Cx Γ y.cls bytes maxL D B (RM Γ B Z fr lo) → Xx Γ B → (Gme Γ).sig.returnType = ret → V Γ D B w maxL (QX Γ D B w σ' (out B) (RZ Γ B (sz σ')) (12 * RZ Γ B (sz σ'))) (kz Γ B Z σ) (12 * kz Γ B Z σ) σ 0 (lv B) []) :
    CX w y (Cond.code y bytes maxL ret) fr lo (Z - sz σ) (12 * (Z - sz σ)) as σ out σ' (sz σ' - sz σ) (12 * (sz σ' - sz σ)) := by
  refine CX.of lv hy hlv hln fun Γ D B X Y hr _ hz => ?_
  have e1 : Z - sz σ = RZ Γ B Z := by unfold RZ; omega
  have e2 : sz σ' - sz σ = RZ Γ B (sz σ') := by unfold RZ; omega
  rw [e1] at X
  rw [e2]
  exact V.mono (Nat.zero_le _) (Nat.zero_le _) (hV Γ D B X Y hr)
/-- a public method: its room is its cost -/
theorem CX.ofX {w : Bool} {y : MethodName} {bytes : ByteArray} {maxL : Nat} {ret : Option FieldType} {fr lo Z : Nat} {as : Nat → List Value} {σ : St} {out : Nat → Ou} {σ' : St} (lv : Nat → List (Nat × Value))
    (hy : plainName y.cls = true) (hlv : ∀ B, lv_args 0 (as B) = lv B) (hln : ∀ B, (lg_sl (as B)).length ≤ maxL)
    (hV : ∀ (Γ : Ga) (D : DD) (B : Nat), Cx Γ y.cls bytes maxL D B (RM Γ B Z fr lo) → Xx Γ B → (Gme Γ).sig.returnType = ret → V Γ D B w maxL (QX Γ D B w σ' (out B) (RZ Γ B Z) (12 * RZ Γ B Z)) (kz Γ B Z σ) (12 * kz Γ B Z σ) σ 0 (lv B) []) :
    CX w y (Cond.code y bytes maxL ret) fr lo (Z - sz σ) (12 * (Z - sz σ)) as σ out σ' (Z - sz σ) (12 * (Z - sz σ)) := by
  refine CX.of lv hy hlv hln fun Γ D B X Y hr _ hz => ?_
  have e1 : Z - sz σ = RZ Γ B Z := by unfold RZ; omega
  rw [e1] at X ⊢
  exact V.mono (Nat.zero_le _) (Nat.zero_le _) (hV Γ D B X Y hr)
section ZC
variable {Γ : Ga} {D : DD} {B : Nat} {w : Bool} {own : String} {cc : ByteArray} {nL : Nat} {rm : Room} {Q : State → Prop} {k n : Nat} {σ : St} {pc : Nat} {lv : List (Nat × Value)} {st : List Value}
theorem V.ret {σ' : St} {v : Option Value} {mc ms : Nat} (h : V Γ D B w nL (QM Γ D B w σ' v mc ms) k n σ pc lv st) : V Γ D B w nL (QX Γ D B w σ' (.inl v) mc ms) k n σ pc lv st :=
  fun H locs ls cs ss hP hS hl hk hn T hT X => by
    obtain ⟨t, a1, o, b1, b2, b3, b4⟩ := h H locs ls cs ss hP hS hl hk hn T hT X
    exact ⟨t, a1, o, b1, b2, Or.inl ⟨⟨v, rfl, b3⟩, b4⟩⟩
theorem blindX {as : List Value} : FrameBlind (va_Pc as (fun U => Pic D B w σ U.heap ∧ KX D B U)) :=
  fun a U g mk h => ⟨h.1, h.2.1, KK.same (s := U) (U := U.calling g mk a) rfl h.2.2.1, KE.to (s := U) (U := U.calling g mk a) (locs := []) (State.WarmedH.refl U) h.2.2.2 va_S.rf⟩
/-- a call of a method that may give birth or throw -/
theorem w_callX {H : Heap} {locs : List Loc} {ls : Array Slot} {cs ss mc ms : Nat} {st0 : List Value} {a : Array Value} {o : Ou} {σ1 : St} (hP : Pic D B w σ H) (hS : va_S (fun q => B ≤ q) (Gs Γ).heap H locs)
    (hr : vx_Run Γ.1 Γ.2.1 Γ.2.2.1 Γ.2.2.2.1 Γ.2.2.2.2.1 Γ.2.2.2.2.2.1 Γ.2.2.2.2.2.2.1 Γ.2.2.2.2.2.2.2.1 Γ.2.2.2.2.2.2.2.2.1 Γ.2.2.2.2.2.2.2.2.2 H locs cs ss mc ms (F0 (Gm Γ) pc ls st0) st (QXr D B w σ1 o a) (QXx D B w σ1 o) (fun q => B ≤ q))
    (kk : ∀ v, o = .inl v → ∀ (H1 : Heap) (locs1 : List Loc), sz σ ≤ sz σ1 → Pic D B w σ1 H1 → va_S (fun q => B ≤ q) (Gs Γ).heap H1 locs1 → GW Γ H1 locs1 (cs + mc) (ss + ms) Q (F0 (Gm Γ) (pc + 3) ls (v.toList ++ st)))
    (kx : ∀ E, o = .inr E → ∀ (H1 : Heap) (locs1 : List Loc) (ce : Cell) (q9 : Addr), sz σ ≤ sz σ1 → Pic D B w σ1 H1 → va_S (fun q => B ≤ q) (Gs Γ).heap H1 locs1 → H1[q9]? = some ce → ce.vm = .none → (Gs Γ).vm.findClass E = some ce.cls →
      vx_W Γ.1 Γ.2.1 Γ.2.2.1 Γ.2.2.2.1 Γ.2.2.2.2.1 Γ.2.2.2.2.2.1 Γ.2.2.2.2.2.2.1 Γ.2.2.2.2.2.2.2.1 Γ.2.2.2.2.2.2.2.2.1 Γ.2.2.2.2.2.2.2.2.2 H1 locs1 (cs + mc) (ss + ms) Q (F0 (Gm Γ) pc ls st) q9) : GW Γ H locs cs ss Q (F0 (Gm Γ) pc ls st0) := by
  have hkeep : ∀ {st₀ t T' : State} {L : List Loc}, st₀.heap = H → T'.heap = t.heap → (∀ q ∈ L, B ≤ q.base) → va_F (fun q => B ≤ q) st₀ t → va_S (fun q => B ≤ q) (Gs Γ).heap T'.heap (locs ++ L) := by
    intro st₀ t T' L h0 e1 hL hF
    obtain ⟨hz, hk2⟩ := hF
    rw [h0] at hz hk2
    exact ⟨Nat.le_trans hS.1 (by rw [e1]; exact hz), fun q h1 h2 => by rw [e1, hk2 q (Nat.lt_of_lt_of_le h1 hS.1) h2]; exact hS.2.1 q h1 h2, fun q hq => by
      rcases List.mem_append.mp hq with h | h
      · exact hS.2.2 q h
      · exact hL q h⟩
  intro T hT X2
  rcases hr T hT X2 with ⟨v2, st₀, t, T', L, h0, X', hL, e1, e2, ⟨v, hv, hv2, hp, hF⟩, stp⟩ | ⟨q, st₀, t, T', L, E, ce, h0, X', hL, e1, e2, ⟨ho, hp, hF⟩, hce, hcv, hcl, stp⟩
  · cases hv2
    have hsz : sz σ ≤ sz σ1 := by
      have h1 := hF.1
      rw [h0, hP.1, hp.1] at h1
      omega
    obtain ⟨t2, a1, b1⟩ := kk _ hv T'.heap (locs ++ L) hsz (by rw [e1]; exact hp) (hkeep h0 e1 hL hF) T' rfl X'
    exact ⟨t2, stp t2 a1, b1⟩
  · have hsz : sz σ ≤ sz σ1 := by
      have h1 := hF.1
      rw [h0, hP.1, hp.1] at h1
      omega
    obtain ⟨t2, a1, b1⟩ := kx E ho T'.heap (locs ++ L) ce q hsz (by rw [e1]; exact hp) (hkeep h0 e1 hL hF) (by rw [e1]; exact hce) hcv hcl T' rfl X'
    exact ⟨t2, stp.trans a1, b1⟩
end ZC

section ZW
variable {Γ : Ga} {D : DD} {B : Nat} {w : Bool} {own : String} {cc : ByteArray} {nL Z fR lR : Nat} {rm : Room} {Q : State → Prop} {k n : Nat} {σ : St} {pc : Nat} {lv : List (Nat × Value)} {st : List Value}
theorem w_callz (X : Cx Γ own cc nL D B rm) {H : Heap} {locs : List Loc} {ls : Array Slot} {cs ss mc ms : Nat} {st0 : List Value} {a : Array Value} {v : Option Value} {σ1 : St} (hP : Pic D B w σ H) (hl : lv_has ls nL lv) (hS : va_S (fun q => B ≤ q) (Gs Γ).heap H locs)
    (hr : va_Run Γ.1 Γ.2.1 Γ.2.2.1 Γ.2.2.2.1 Γ.2.2.2.2.1 Γ.2.2.2.2.2.1 Γ.2.2.2.2.2.2.1 Γ.2.2.2.2.2.2.2.1 Γ.2.2.2.2.2.2.2.2.1 Γ.2.2.2.2.2.2.2.2.2 H locs cs ss mc ms (F0 (Gm Γ) pc ls st0) st (QR D B w σ1 v a) (fun q => B ≤ q)) (hk : cs ≤ k) (hn : ss ≤ n)
    (kk : sz σ ≤ sz σ1 → V Γ D B w nL Q (k + mc) (n + ms) σ1 (pc + 3) lv (v.toList ++ st)) : GW Γ H locs cs ss Q (F0 (Gm Γ) pc ls st0) := by
  intro T hT X2
  obtain ⟨v2, st₀, t, T', L, h0, X', hL, e1, e2, ⟨hv, hp, hz, hk2⟩, stp⟩ := hr T hT X2
  cases hv
  rw [h0] at hz hk2
  have hsz : sz σ ≤ sz σ1 := by
    rw [hP.1, hp.1] at hz
    omega
  obtain ⟨t2, a1, b1⟩ := kk hsz T'.heap (locs ++ L) ls (cs + mc) (ss + ms) (by rw [e1]; exact hp) ⟨Nat.le_trans hS.1 (by rw [e1]; exact hz), fun q h1 h2 => by rw [e1, hk2 q (Nat.lt_of_lt_of_le h1 hS.1) h2]; exact hS.2.1 q h1 h2, fun q hq => by
      rcases List.mem_append.mp hq with h | h
      · exact hS.2.2 q h
      · exact hL q h⟩ hl (by omega) (by omega) T' rfl X'
  exact ⟨t2, stp t2 a1, b1⟩
theorem kz_mono {Γ : Ga} {B Z : Nat} {σ σ1 : St} (h : sz σ ≤ sz σ1) : kz Γ B Z σ ≤ kz Γ B Z σ1 := by
  unfold kz RZ
  omega
theorem z_callV (X : Cx Γ own cc nL D B (RM Γ B Z fR lR)) {C : String} {idx maxL fr lo a : Nat} {y : MethodName} {bytes : ByteArray} {ret : Option FieldType} {as : Nat → List Value} {v : Nat → Option Value} {σ1 : St} {As : List Value} (hC : CC w y (Cond.code y bytes maxL ret) fr lo as σ v σ1 0 0) (has : as B = .ref (B + a) :: As)
    (hml : Cond.methodLink own idx y ∈ WT) (hin : Cond.instanceMethod y ∈ WT) (hse : Cond.selects C y y ∈ WT) (hini : Cond.initialized C ∈ WT) (hco : Cond.code y bytes maxL ret ∈ WT) (hd : y.cls = C ∧ y.cls ≠ "java/lang/invoke/MethodHandle" ∧ y.cls ≠ "java/lang/invoke/VarHandle" ∧ (parseMethodDescriptor y.desc).map (fun d => d.parameters.length) = some As.length) (hrc : Rc D B w σ C a)
    (hR : fr + 1 ≤ fR ∧ 8 + (maxL + 11) + lo ≤ lR) (hrm : (st.map fun v => v.category).sum ≤ 8) (d : decode cc pc = .ok (.invokevirtual idx, 3)) {pre : List Value} (hpre : pre = As.reverse ++ .ref (B + a) :: st)
    (kk : V Γ D B w nL Q (kz Γ B Z σ1) (12 * kz Γ B Z σ1) σ1 (pc + 3) lv ((v B).toList ++ st)) : V Γ D B w nL Q (kz Γ B Z σ) (12 * kz Γ B Z σ) σ pc lv pre := by
  subst hpre
  intro H locs ls cs ss hP hS hl hk hn
  have hR9 := X.2.2.2.2.2.2.2.2
  obtain ⟨ci, N, T, fs, hcl, hat⟩ := hrc
  refine w_callz X hP hl hS (va_runV (As := As) (rest := st) ⟨X.1, X.2.1, X.2.2.1, X.2.2.2.1, X.2.2.2.2.1⟩ (hC Γ.2.1 D B) (cwV As.length X.2.2.2.2.1 (WT_cons hml (WT_cons hin (WT_cons hse (WT_cons hini (WT_call hco))))) rfl rfl rfl hd ⟨by show fr + 1 ≤ (GR Γ).frames; rw [hR9]; exact hR.1, by show 8 + (maxL + 11) + lo ≤ (GR Γ).locals; rw [hR9]; exact hR.2⟩) ⟨blind, recv X.2.2.2.2.2.1.1 hcl (hat H hP), fun U hU hW => ⟨by rw [has], by rw [hU]; exact hP, KK.moved hW X.2.2.2.2.2.1⟩⟩ rfl rfl hl.1 rfl (lv_room hrm) d ⟨by show cs + 0 ≤ (GR Γ).cells; rw [hR9]; exact Nat.le_trans hk kz_r, by show ss + 0 ≤ (GR Γ).slots; rw [hR9]; exact Nat.le_trans hn (Nat.mul_le_mul_left 12 kz_r)⟩) hk hn (fun hsz => V.mono (kz_mono hsz) (Nat.mul_le_mul_left 12 (kz_mono hsz)) kk)
theorem z_callVv (X : Cx Γ own cc nL D B (RM Γ B Z fR lR)) {C : String} {idx maxL fr lo a : Nat} {y : MethodName} {bytes : ByteArray} {ret : Option FieldType} {as : Nat → List Value} {σ1 : St} {As : List Value} (hC : CC w y (Cond.code y bytes maxL ret) fr lo as σ (fun _ => none) σ1 0 0) (has : as B = .ref (B + a) :: As)
    (hml : Cond.methodLink own idx y ∈ WT) (hin : Cond.instanceMethod y ∈ WT) (hse : Cond.selects C y y ∈ WT) (hini : Cond.initialized C ∈ WT) (hco : Cond.code y bytes maxL ret ∈ WT) (hd : y.cls = C ∧ y.cls ≠ "java/lang/invoke/MethodHandle" ∧ y.cls ≠ "java/lang/invoke/VarHandle" ∧ (parseMethodDescriptor y.desc).map (fun d => d.parameters.length) = some As.length) (hrc : Rc D B w σ C a)
    (hR : fr + 1 ≤ fR ∧ 8 + (maxL + 11) + lo ≤ lR) (hrm : (st.map fun v => v.category).sum ≤ 8) (d : decode cc pc = .ok (.invokevirtual idx, 3)) {pre : List Value} (hpre : pre = As.reverse ++ .ref (B + a) :: st)
    (kk : V Γ D B w nL Q (kz Γ B Z σ1) (12 * kz Γ B Z σ1) σ1 (pc + 3) lv st) : V Γ D B w nL Q (kz Γ B Z σ) (12 * kz Γ B Z σ) σ pc lv pre := z_callV X hC has hml hin hse hini hco hd hrc hR hrm d hpre kk
theorem z_callVi (X : Cx Γ own cc nL D B (RM Γ B Z fR lR)) {C : String} {idx maxL fr lo a : Nat} {y : MethodName} {bytes : ByteArray} {ret : Option FieldType} {as : Nat → List Value} {r : Int32} {σ1 : St} {As : List Value} (hC : CC w y (Cond.code y bytes maxL ret) fr lo as σ (fun _ => some (.int r)) σ1 0 0) (has : as B = .ref (B + a) :: As)
    (hml : Cond.methodLink own idx y ∈ WT) (hin : Cond.instanceMethod y ∈ WT) (hse : Cond.selects C y y ∈ WT) (hini : Cond.initialized C ∈ WT) (hco : Cond.code y bytes maxL ret ∈ WT) (hd : y.cls = C ∧ y.cls ≠ "java/lang/invoke/MethodHandle" ∧ y.cls ≠ "java/lang/invoke/VarHandle" ∧ (parseMethodDescriptor y.desc).map (fun d => d.parameters.length) = some As.length) (hrc : Rc D B w σ C a)
    (hR : fr + 1 ≤ fR ∧ 8 + (maxL + 11) + lo ≤ lR) (hrm : (st.map fun v => v.category).sum ≤ 8) (d : decode cc pc = .ok (.invokevirtual idx, 3)) {pre : List Value} (hpre : pre = As.reverse ++ .ref (B + a) :: st)
    (kk : V Γ D B w nL Q (kz Γ B Z σ1) (12 * kz Γ B Z σ1) σ1 (pc + 3) lv (.int r :: st)) : V Γ D B w nL Q (kz Γ B Z σ) (12 * kz Γ B Z σ) σ pc lv pre := z_callV X hC has hml hin hse hini hco hd hrc hR hrm d hpre kk
theorem z_callVl (X : Cx Γ own cc nL D B (RM Γ B Z fR lR)) {C : String} {idx maxL fr lo a : Nat} {y : MethodName} {bytes : ByteArray} {ret : Option FieldType} {as : Nat → List Value} {r : Int64} {σ1 : St} {As : List Value} (hC : CC w y (Cond.code y bytes maxL ret) fr lo as σ (fun _ => some (.long r)) σ1 0 0) (has : as B = .ref (B + a) :: As)
    (hml : Cond.methodLink own idx y ∈ WT) (hin : Cond.instanceMethod y ∈ WT) (hse : Cond.selects C y y ∈ WT) (hini : Cond.initialized C ∈ WT) (hco : Cond.code y bytes maxL ret ∈ WT) (hd : y.cls = C ∧ y.cls ≠ "java/lang/invoke/MethodHandle" ∧ y.cls ≠ "java/lang/invoke/VarHandle" ∧ (parseMethodDescriptor y.desc).map (fun d => d.parameters.length) = some As.length) (hrc : Rc D B w σ C a)
    (hR : fr + 1 ≤ fR ∧ 8 + (maxL + 11) + lo ≤ lR) (hrm : (st.map fun v => v.category).sum ≤ 8) (d : decode cc pc = .ok (.invokevirtual idx, 3)) {pre : List Value} (hpre : pre = As.reverse ++ .ref (B + a) :: st)
    (kk : V Γ D B w nL Q (kz Γ B Z σ1) (12 * kz Γ B Z σ1) σ1 (pc + 3) lv (.long r :: st)) : V Γ D B w nL Q (kz Γ B Z σ) (12 * kz Γ B Z σ) σ pc lv pre := z_callV X hC has hml hin hse hini hco hd hrc hR hrm d hpre kk
theorem z_callVq (X : Cx Γ own cc nL D B (RM Γ B Z fR lR)) {C : String} {idx maxL fr lo a : Nat} {y : MethodName} {bytes : ByteArray} {ret : Option FieldType} {as : Nat → List Value} {r : Option Nat} {σ1 : St} {As : List Value} (hC : CC w y (Cond.code y bytes maxL ret) fr lo as σ (fun B => some (rfB B r)) σ1 0 0) (has : as B = .ref (B + a) :: As)
    (hml : Cond.methodLink own idx y ∈ WT) (hin : Cond.instanceMethod y ∈ WT) (hse : Cond.selects C y y ∈ WT) (hini : Cond.initialized C ∈ WT) (hco : Cond.code y bytes maxL ret ∈ WT) (hd : y.cls = C ∧ y.cls ≠ "java/lang/invoke/MethodHandle" ∧ y.cls ≠ "java/lang/invoke/VarHandle" ∧ (parseMethodDescriptor y.desc).map (fun d => d.parameters.length) = some As.length) (hrc : Rc D B w σ C a)
    (hR : fr + 1 ≤ fR ∧ 8 + (maxL + 11) + lo ≤ lR) (hrm : (st.map fun v => v.category).sum ≤ 8) (d : decode cc pc = .ok (.invokevirtual idx, 3)) {pre : List Value} (hpre : pre = As.reverse ++ .ref (B + a) :: st)
    (kk : V Γ D B w nL Q (kz Γ B Z σ1) (12 * kz Γ B Z σ1) σ1 (pc + 3) lv (rfB B r :: st)) : V Γ D B w nL Q (kz Γ B Z σ) (12 * kz Γ B Z σ) σ pc lv pre := z_callV X hC has hml hin hse hini hco hd hrc hR hrm d hpre kk
theorem z_callS (X : Cx Γ own cc nL D B (RM Γ B Z fR lR)) {idx maxL fr lo : Nat} {y : MethodName} {bytes : ByteArray} {ret : Option FieldType} {as : Nat → List Value} {v : Nat → Option Value} {σ1 : St} {As : List Value} (hC : CC w y (Cond.code y bytes maxL ret) fr lo as σ v σ1 0 0) (has : as B = As)
    (hml : Cond.methodLink own idx y ∈ WT) (hstt : Cond.static y ∈ WT) (hini : Cond.initialized y.cls ∈ WT) (hco : Cond.code y bytes maxL ret ∈ WT) (hd : y.cls ≠ "java/lang/invoke/MethodHandle" ∧ y.cls ≠ "java/lang/invoke/VarHandle" ∧ (parseMethodDescriptor y.desc).map (fun d => d.parameters.length) = some As.length)
    (hR : fr + 1 ≤ fR ∧ 8 + (maxL + 11) + lo ≤ lR) (hrm : (st.map fun v => v.category).sum ≤ 8) (d : decode cc pc = .ok (.invokestatic idx, 3)) {pre : List Value} (hpre : pre = As.reverse ++ st)
    (kk : V Γ D B w nL Q (kz Γ B Z σ1) (12 * kz Γ B Z σ1) σ1 (pc + 3) lv ((v B).toList ++ st)) : V Γ D B w nL Q (kz Γ B Z σ) (12 * kz Γ B Z σ) σ pc lv pre := by
  subst hpre
  intro H locs ls cs ss hP hS hl hk hn
  have hR9 := X.2.2.2.2.2.2.2.2
  refine w_callz X hP hl hS (va_runS (As := As) (rest := st) ⟨X.1, X.2.1, X.2.2.1, X.2.2.2.1, X.2.2.2.2.1⟩ (hC Γ.2.1 D B) (va_cwS As.length X.2.2.2.2.1 (WT_cons hml (WT_cons hstt (WT_cons hini (WT_call hco)))) rfl rfl rfl hd ⟨by show fr + 1 ≤ (GR Γ).frames; rw [hR9]; exact hR.1, by show 8 + (maxL + 11) + lo ≤ (GR Γ).locals; rw [hR9]; exact hR.2⟩) ⟨blind, fun U hU hW => ⟨by rw [has], by rw [hU]; exact hP, KK.moved hW X.2.2.2.2.2.1⟩⟩ rfl rfl hl.1 rfl (lv_room hrm) d ⟨by show cs + 0 ≤ (GR Γ).cells; rw [hR9]; exact Nat.le_trans hk kz_r, by show ss + 0 ≤ (GR Γ).slots; rw [hR9]; exact Nat.le_trans hn (Nat.mul_le_mul_left 12 kz_r)⟩) hk hn (fun hsz => V.mono (kz_mono hsz) (Nat.mul_le_mul_left 12 (kz_mono hsz)) kk)
theorem z_callSv (X : Cx Γ own cc nL D B (RM Γ B Z fR lR)) {idx maxL fr lo : Nat} {y : MethodName} {bytes : ByteArray} {ret : Option FieldType} {as : Nat → List Value} {σ1 : St} {As : List Value} (hC : CC w y (Cond.code y bytes maxL ret) fr lo as σ (fun _ => none) σ1 0 0) (has : as B = As)
    (hml : Cond.methodLink own idx y ∈ WT) (hstt : Cond.static y ∈ WT) (hini : Cond.initialized y.cls ∈ WT) (hco : Cond.code y bytes maxL ret ∈ WT) (hd : y.cls ≠ "java/lang/invoke/MethodHandle" ∧ y.cls ≠ "java/lang/invoke/VarHandle" ∧ (parseMethodDescriptor y.desc).map (fun d => d.parameters.length) = some As.length)
    (hR : fr + 1 ≤ fR ∧ 8 + (maxL + 11) + lo ≤ lR) (hrm : (st.map fun v => v.category).sum ≤ 8) (d : decode cc pc = .ok (.invokestatic idx, 3)) {pre : List Value} (hpre : pre = As.reverse ++ st)
    (kk : V Γ D B w nL Q (kz Γ B Z σ1) (12 * kz Γ B Z σ1) σ1 (pc + 3) lv st) : V Γ D B w nL Q (kz Γ B Z σ) (12 * kz Γ B Z σ) σ pc lv pre := z_callS X hC has hml hstt hini hco hd hR hrm d hpre kk
theorem z_callSi (X : Cx Γ own cc nL D B (RM Γ B Z fR lR)) {idx maxL fr lo : Nat} {y : MethodName} {bytes : ByteArray} {ret : Option FieldType} {as : Nat → List Value} {r : Int32} {σ1 : St} {As : List Value} (hC : CC w y (Cond.code y bytes maxL ret) fr lo as σ (fun _ => some (.int r)) σ1 0 0) (has : as B = As)
    (hml : Cond.methodLink own idx y ∈ WT) (hstt : Cond.static y ∈ WT) (hini : Cond.initialized y.cls ∈ WT) (hco : Cond.code y bytes maxL ret ∈ WT) (hd : y.cls ≠ "java/lang/invoke/MethodHandle" ∧ y.cls ≠ "java/lang/invoke/VarHandle" ∧ (parseMethodDescriptor y.desc).map (fun d => d.parameters.length) = some As.length)
    (hR : fr + 1 ≤ fR ∧ 8 + (maxL + 11) + lo ≤ lR) (hrm : (st.map fun v => v.category).sum ≤ 8) (d : decode cc pc = .ok (.invokestatic idx, 3)) {pre : List Value} (hpre : pre = As.reverse ++ st)
    (kk : V Γ D B w nL Q (kz Γ B Z σ1) (12 * kz Γ B Z σ1) σ1 (pc + 3) lv (.int r :: st)) : V Γ D B w nL Q (kz Γ B Z σ) (12 * kz Γ B Z σ) σ pc lv pre := z_callS X hC has hml hstt hini hco hd hR hrm d hpre kk
theorem z_callSl (X : Cx Γ own cc nL D B (RM Γ B Z fR lR)) {idx maxL fr lo : Nat} {y : MethodName} {bytes : ByteArray} {ret : Option FieldType} {as : Nat → List Value} {r : Int64} {σ1 : St} {As : List Value} (hC : CC w y (Cond.code y bytes maxL ret) fr lo as σ (fun _ => some (.long r)) σ1 0 0) (has : as B = As)
    (hml : Cond.methodLink own idx y ∈ WT) (hstt : Cond.static y ∈ WT) (hini : Cond.initialized y.cls ∈ WT) (hco : Cond.code y bytes maxL ret ∈ WT) (hd : y.cls ≠ "java/lang/invoke/MethodHandle" ∧ y.cls ≠ "java/lang/invoke/VarHandle" ∧ (parseMethodDescriptor y.desc).map (fun d => d.parameters.length) = some As.length)
    (hR : fr + 1 ≤ fR ∧ 8 + (maxL + 11) + lo ≤ lR) (hrm : (st.map fun v => v.category).sum ≤ 8) (d : decode cc pc = .ok (.invokestatic idx, 3)) {pre : List Value} (hpre : pre = As.reverse ++ st)
    (kk : V Γ D B w nL Q (kz Γ B Z σ1) (12 * kz Γ B Z σ1) σ1 (pc + 3) lv (.long r :: st)) : V Γ D B w nL Q (kz Γ B Z σ) (12 * kz Γ B Z σ) σ pc lv pre := z_callS X hC has hml hstt hini hco hd hR hrm d hpre kk
theorem z_callSq (X : Cx Γ own cc nL D B (RM Γ B Z fR lR)) {idx maxL fr lo : Nat} {y : MethodName} {bytes : ByteArray} {ret : Option FieldType} {as : Nat → List Value} {r : Option Nat} {σ1 : St} {As : List Value} (hC : CC w y (Cond.code y bytes maxL ret) fr lo as σ (fun B => some (rfB B r)) σ1 0 0) (has : as B = As)
    (hml : Cond.methodLink own idx y ∈ WT) (hstt : Cond.static y ∈ WT) (hini : Cond.initialized y.cls ∈ WT) (hco : Cond.code y bytes maxL ret ∈ WT) (hd : y.cls ≠ "java/lang/invoke/MethodHandle" ∧ y.cls ≠ "java/lang/invoke/VarHandle" ∧ (parseMethodDescriptor y.desc).map (fun d => d.parameters.length) = some As.length)
    (hR : fr + 1 ≤ fR ∧ 8 + (maxL + 11) + lo ≤ lR) (hrm : (st.map fun v => v.category).sum ≤ 8) (d : decode cc pc = .ok (.invokestatic idx, 3)) {pre : List Value} (hpre : pre = As.reverse ++ st)
    (kk : V Γ D B w nL Q (kz Γ B Z σ1) (12 * kz Γ B Z σ1) σ1 (pc + 3) lv (rfB B r :: st)) : V Γ D B w nL Q (kz Γ B Z σ) (12 * kz Γ B Z σ) σ pc lv pre := z_callS X hC has hml hstt hini hco hd hR hrm d hpre kk
theorem z_callSN (X : Cx Γ own cc nL D B (RM Γ B Z fR lR)) {host : String} {idx maxL fr lo : Nat} {y : MethodName} {bytes : ByteArray} {ret : Option FieldType} {as : Nat → List Value} {v : Nat → Option Value} {σ1 : St} {As : List Value} (hC : CC w y (Cond.code y bytes maxL ret) fr lo as σ v σ1 0 0) (has : as B = As)
    (hml : Cond.methodLinkNest own idx y host ∈ tables_1) (hstt : Cond.static y ∈ WT) (hini : Cond.initialized y.cls ∈ WT) (hco : Cond.code y bytes maxL ret ∈ WT) (hd : y.cls ≠ "java/lang/invoke/MethodHandle" ∧ y.cls ≠ "java/lang/invoke/VarHandle" ∧ (parseMethodDescriptor y.desc).map (fun d => d.parameters.length) = some As.length)
    (hR : fr + 1 ≤ fR ∧ 8 + (maxL + 11) + lo ≤ lR) (hrm : (st.map fun v => v.category).sum ≤ 8) (d : decode cc pc = .ok (.invokestatic idx, 3)) {pre : List Value} (hpre : pre = As.reverse ++ st)
    (kk : V Γ D B w nL Q (kz Γ B Z σ1) (12 * kz Γ B Z σ1) σ1 (pc + 3) lv ((v B).toList ++ st)) : V Γ D B w nL Q (kz Γ B Z σ) (12 * kz Γ B Z σ) σ pc lv pre := by
  subst hpre
  intro H locs ls cs ss hP hS hl hk hn
  have hR9 := X.2.2.2.2.2.2.2.2
  refine w_callz X hP hl hS (va_runSN (As := As) (rest := st) ⟨X.1, X.2.1, X.2.2.1, X.2.2.2.1, X.2.2.2.2.1⟩ (hC Γ.2.1 D B) ⟨va_cnB As.length X.2.2.2.2.1 (WT_call hco) rfl rfl rfl (X.2.2.2.2.2.1.2 _ _ _ _ hml) (X.w hini) hd ⟨by show fr + 1 ≤ (GR Γ).frames; rw [hR9]; exact hR.1, by show 8 + (maxL + 11) + lo ≤ (GR Γ).locals; rw [hR9]; exact hR.2⟩, X.w hstt, trivial⟩ ⟨blind, fun U hU hW => ⟨by rw [has], by rw [hU]; exact hP, KK.moved hW X.2.2.2.2.2.1⟩⟩ rfl rfl hl.1 rfl (lv_room hrm) d ⟨by show cs + 0 ≤ (GR Γ).cells; rw [hR9]; exact Nat.le_trans hk kz_r, by show ss + 0 ≤ (GR Γ).slots; rw [hR9]; exact Nat.le_trans hn (Nat.mul_le_mul_left 12 kz_r)⟩) hk hn (fun hsz => V.mono (kz_mono hsz) (Nat.mul_le_mul_left 12 (kz_mono hsz)) kk)
theorem z_callSNv (X : Cx Γ own cc nL D B (RM Γ B Z fR lR)) {host : String} {idx maxL fr lo : Nat} {y : MethodName} {bytes : ByteArray} {ret : Option FieldType} {as : Nat → List Value} {σ1 : St} {As : List Value} (hC : CC w y (Cond.code y bytes maxL ret) fr lo as σ (fun _ => none) σ1 0 0) (has : as B = As)
    (hml : Cond.methodLinkNest own idx y host ∈ tables_1) (hstt : Cond.static y ∈ WT) (hini : Cond.initialized y.cls ∈ WT) (hco : Cond.code y bytes maxL ret ∈ WT) (hd : y.cls ≠ "java/lang/invoke/MethodHandle" ∧ y.cls ≠ "java/lang/invoke/VarHandle" ∧ (parseMethodDescriptor y.desc).map (fun d => d.parameters.length) = some As.length)
    (hR : fr + 1 ≤ fR ∧ 8 + (maxL + 11) + lo ≤ lR) (hrm : (st.map fun v => v.category).sum ≤ 8) (d : decode cc pc = .ok (.invokestatic idx, 3)) {pre : List Value} (hpre : pre = As.reverse ++ st)
    (kk : V Γ D B w nL Q (kz Γ B Z σ1) (12 * kz Γ B Z σ1) σ1 (pc + 3) lv st) : V Γ D B w nL Q (kz Γ B Z σ) (12 * kz Γ B Z σ) σ pc lv pre := z_callSN X hC has hml hstt hini hco hd hR hrm d hpre kk
theorem z_callSNi (X : Cx Γ own cc nL D B (RM Γ B Z fR lR)) {host : String} {idx maxL fr lo : Nat} {y : MethodName} {bytes : ByteArray} {ret : Option FieldType} {as : Nat → List Value} {r : Int32} {σ1 : St} {As : List Value} (hC : CC w y (Cond.code y bytes maxL ret) fr lo as σ (fun _ => some (.int r)) σ1 0 0) (has : as B = As)
    (hml : Cond.methodLinkNest own idx y host ∈ tables_1) (hstt : Cond.static y ∈ WT) (hini : Cond.initialized y.cls ∈ WT) (hco : Cond.code y bytes maxL ret ∈ WT) (hd : y.cls ≠ "java/lang/invoke/MethodHandle" ∧ y.cls ≠ "java/lang/invoke/VarHandle" ∧ (parseMethodDescriptor y.desc).map (fun d => d.parameters.length) = some As.length)
    (hR : fr + 1 ≤ fR ∧ 8 + (maxL + 11) + lo ≤ lR) (hrm : (st.map fun v => v.category).sum ≤ 8) (d : decode cc pc = .ok (.invokestatic idx, 3)) {pre : List Value} (hpre : pre = As.reverse ++ st)
    (kk : V Γ D B w nL Q (kz Γ B Z σ1) (12 * kz Γ B Z σ1) σ1 (pc + 3) lv (.int r :: st)) : V Γ D B w nL Q (kz Γ B Z σ) (12 * kz Γ B Z σ) σ pc lv pre := z_callSN X hC has hml hstt hini hco hd hR hrm d hpre kk
theorem z_callSNl (X : Cx Γ own cc nL D B (RM Γ B Z fR lR)) {host : String} {idx maxL fr lo : Nat} {y : MethodName} {bytes : ByteArray} {ret : Option FieldType} {as : Nat → List Value} {r : Int64} {σ1 : St} {As : List Value} (hC : CC w y (Cond.code y bytes maxL ret) fr lo as σ (fun _ => some (.long r)) σ1 0 0) (has : as B = As)
    (hml : Cond.methodLinkNest own idx y host ∈ tables_1) (hstt : Cond.static y ∈ WT) (hini : Cond.initialized y.cls ∈ WT) (hco : Cond.code y bytes maxL ret ∈ WT) (hd : y.cls ≠ "java/lang/invoke/MethodHandle" ∧ y.cls ≠ "java/lang/invoke/VarHandle" ∧ (parseMethodDescriptor y.desc).map (fun d => d.parameters.length) = some As.length)
    (hR : fr + 1 ≤ fR ∧ 8 + (maxL + 11) + lo ≤ lR) (hrm : (st.map fun v => v.category).sum ≤ 8) (d : decode cc pc = .ok (.invokestatic idx, 3)) {pre : List Value} (hpre : pre = As.reverse ++ st)
    (kk : V Γ D B w nL Q (kz Γ B Z σ1) (12 * kz Γ B Z σ1) σ1 (pc + 3) lv (.long r :: st)) : V Γ D B w nL Q (kz Γ B Z σ) (12 * kz Γ B Z σ) σ pc lv pre := z_callSN X hC has hml hstt hini hco hd hR hrm d hpre kk
theorem z_callSNq (X : Cx Γ own cc nL D B (RM Γ B Z fR lR)) {host : String} {idx maxL fr lo : Nat} {y : MethodName} {bytes : ByteArray} {ret : Option FieldType} {as : Nat → List Value} {r : Option Nat} {σ1 : St} {As : List Value} (hC : CC w y (Cond.code y bytes maxL ret) fr lo as σ (fun B => some (rfB B r)) σ1 0 0) (has : as B = As)
    (hml : Cond.methodLinkNest own idx y host ∈ tables_1) (hstt : Cond.static y ∈ WT) (hini : Cond.initialized y.cls ∈ WT) (hco : Cond.code y bytes maxL ret ∈ WT) (hd : y.cls ≠ "java/lang/invoke/MethodHandle" ∧ y.cls ≠ "java/lang/invoke/VarHandle" ∧ (parseMethodDescriptor y.desc).map (fun d => d.parameters.length) = some As.length)
    (hR : fr + 1 ≤ fR ∧ 8 + (maxL + 11) + lo ≤ lR) (hrm : (st.map fun v => v.category).sum ≤ 8) (d : decode cc pc = .ok (.invokestatic idx, 3)) {pre : List Value} (hpre : pre = As.reverse ++ st)
    (kk : V Γ D B w nL Q (kz Γ B Z σ1) (12 * kz Γ B Z σ1) σ1 (pc + 3) lv (rfB B r :: st)) : V Γ D B w nL Q (kz Γ B Z σ) (12 * kz Γ B Z σ) σ pc lv pre := z_callSN X hC has hml hstt hini hco hd hR hrm d hpre kk
theorem z_callI (X : Cx Γ own cc nL D B (RM Γ B Z fR lR)) {idx maxL fr lo a : Nat} {y : MethodName} {bytes : ByteArray} {as : Nat → List Value} {σ1 : St} {As : List Value} (hC : CC w y (Cond.code y bytes maxL none) fr lo as σ (fun _ => none) σ1 0 0) (has : as B = .ref (B + a) :: As)
    (hml : Cond.methodLink own idx y ∈ WT) (hin : Cond.instanceMethod y ∈ WT) (hini : Cond.initialized y.cls ∈ WT) (hco : Cond.code y bytes maxL none ∈ WT) (hy1 : y.name = "<init>") (hd : y.cls ≠ "java/lang/invoke/MethodHandle" ∧ y.cls ≠ "java/lang/invoke/VarHandle" ∧ (parseMethodDescriptor y.desc).map (fun d => d.parameters.length) = some As.length)
    (hR : fr + 1 ≤ fR ∧ 8 + (maxL + 11) + lo ≤ lR) (hrm : (st.map fun v => v.category).sum ≤ 8) (d : decode cc pc = .ok (.invokespecial idx, 3)) {pre : List Value} (hpre : pre = As.reverse ++ .ref (B + a) :: st)
    (kk : V Γ D B w nL Q (kz Γ B Z σ1) (12 * kz Γ B Z σ1) σ1 (pc + 3) lv st) : V Γ D B w nL Q (kz Γ B Z σ) (12 * kz Γ B Z σ) σ pc lv pre := by
  subst hpre
  intro H locs ls cs ss hP hS hl hk hn
  have hR9 := X.2.2.2.2.2.2.2.2
  refine w_callz X hP hl hS (v := none) (va_runI (As := As) (rest := st) ⟨X.1, X.2.1, X.2.2.1, X.2.2.2.1, X.2.2.2.2.1⟩ (hC Γ.2.1 D B) (cwI As.length X.2.2.2.2.1 (WT_call hco) rfl rfl rfl (X.w hini) (X.w hml) (X.w hin) hy1 hd ⟨by show fr + 1 ≤ (GR Γ).frames; rw [hR9]; exact hR.1, by show 8 + (maxL + 11) + lo ≤ (GR Γ).locals; rw [hR9]; exact hR.2⟩) ⟨blind, fun U hU hW => ⟨by rw [has], by rw [hU]; exact hP, KK.moved hW X.2.2.2.2.2.1⟩⟩ rfl rfl hl.1 rfl (lv_room hrm) d ⟨by show cs + 0 ≤ (GR Γ).cells; rw [hR9]; exact Nat.le_trans hk kz_r, by show ss + 0 ≤ (GR Γ).slots; rw [hR9]; exact Nat.le_trans hn (Nat.mul_le_mul_left 12 kz_r)⟩) hk hn (fun hsz => V.mono (kz_mono hsz) (Nat.mul_le_mul_left 12 (kz_mono hsz)) kk)
theorem z_callIN (X : Cx Γ own cc nL D B (RM Γ B Z fR lR)) {host : String} {idx maxL fr lo a : Nat} {y : MethodName} {bytes : ByteArray} {as : Nat → List Value} {σ1 : St} {As : List Value} (hC : CC w y (Cond.code y bytes maxL none) fr lo as σ (fun _ => none) σ1 0 0) (has : as B = .ref (B + a) :: As)
    (hml : Cond.methodLinkNest own idx y host ∈ tables_1) (hin : Cond.instanceMethod y ∈ WT) (hini : Cond.initialized y.cls ∈ WT) (hco : Cond.code y bytes maxL none ∈ WT) (hy1 : y.name = "<init>") (hd : y.cls ≠ "java/lang/invoke/MethodHandle" ∧ y.cls ≠ "java/lang/invoke/VarHandle" ∧ (parseMethodDescriptor y.desc).map (fun d => d.parameters.length) = some As.length)
    (hR : fr + 1 ≤ fR ∧ 8 + (maxL + 11) + lo ≤ lR) (hrm : (st.map fun v => v.category).sum ≤ 8) (d : decode cc pc = .ok (.invokespecial idx, 3)) {pre : List Value} (hpre : pre = As.reverse ++ .ref (B + a) :: st)
    (kk : V Γ D B w nL Q (kz Γ B Z σ1) (12 * kz Γ B Z σ1) σ1 (pc + 3) lv st) : V Γ D B w nL Q (kz Γ B Z σ) (12 * kz Γ B Z σ) σ pc lv pre := by
  subst hpre
  intro H locs ls cs ss hP hS hl hk hn
  have hR9 := X.2.2.2.2.2.2.2.2
  refine w_callz X hP hl hS (v := none) (va_runIN (As := As) (rest := st) ⟨X.1, X.2.1, X.2.2.1, X.2.2.2.1, X.2.2.2.2.1⟩ (hC Γ.2.1 D B) ⟨va_cnB As.length X.2.2.2.2.1 (WT_call hco) rfl rfl rfl (X.2.2.2.2.2.1.2 _ _ _ _ hml) (X.w hini) hd ⟨by show fr + 1 ≤ (GR Γ).frames; rw [hR9]; exact hR.1, by show 8 + (maxL + 11) + lo ≤ (GR Γ).locals; rw [hR9]; exact hR.2⟩, hy1, X.w hin⟩ ⟨blind, fun U hU hW => ⟨by rw [has], by rw [hU]; exact hP, KK.moved hW X.2.2.2.2.2.1⟩⟩ rfl rfl hl.1 rfl (lv_room hrm) d ⟨by show cs + 0 ≤ (GR Γ).cells; rw [hR9]; exact Nat.le_trans hk kz_r, by show ss + 0 ≤ (GR Γ).slots; rw [hR9]; exact Nat.le_trans hn (Nat.mul_le_mul_left 12 kz_r)⟩) hk hn (fun hsz => V.mono (kz_mono hsz) (Nat.mul_le_mul_left 12 (kz_mono hsz)) kk)
theorem z_put (X : Cx Γ own cc nL D B rm) {a ci j idx N : Nat} {fs : List Value} {C : String} {T : u_T} {v : Value} {ty : FieldType} {σ1 : St} {α : Type} {G : St → α} {z : α} (he : (cells D B w σ)[a]? = some (.inr (ci, fs))) (hc : vwCl[ci]? = some (C, T, N)) (hin : ∀ x ∈ u_ws C T N, x ∈ WT) (ty0 : Nat → FieldType) (hty : ∀ k, k < N → parseFieldDescriptor (T k).2.2.1 = some (ty0 k)) (hnm : ∀ a, a < N → ∀ b, b < N → a ≠ b → (T a).2.1 ≠ (T b).2.1)
    (hj : j < N) (hl : Cond.fieldLink own idx (T j).1 (T j).2.1 (T j).2.2.1 ∈ WT) (hfin : (T j).2.2.2 = false) (hd : parseFieldDescriptor (T j).2.2.1 = some ty) (hn2 : narrow ty v = v) (hfit : fits ty v = true) (hlen : j < fs.length) (hcs : cells D B w σ1 = (cells D B w σ).set a (.inr (ci, fs.set j v))) (hgd : gD σ1 = gD σ) (hsz : sz σ1 = sz σ) (d : decode cc pc = .ok (.putfield idx, 3)) (hf : lt σ1 G = z)
    (kk : ∀ s1, G s1 = z → V Γ D B w nL Q (kz Γ B Z s1) (12 * kz Γ B Z s1) s1 (pc + 3) lv st) : V Γ D B w nL Q (kz Γ B Z σ) (12 * kz Γ B Z σ) σ pc lv (v :: .ref (B + a) :: st) := r_put X he hc hin ty0 hty hnm hj hl hfin hd hn2 hfit hlen hcs hgd hsz d (by rw [← kz_eq (Γ := Γ) (B := B) (Z := Z) hsz]; exact kk σ1 hf)
theorem z_zast (X : Cx Γ own cc nL D B rm) {a m : Nat} {f : Nat → Int32} {i x : Int32} {α : Type} {G : Nat → St → Option α} {z : α} (he : (cells D B w σ)[a]? = some (.inl (D.2 3, m, .inl f))) (hcs : ∀ j, cells D B w (sA σ a j x) = (cells D B w σ).set a (.inl (D.2 3, m, .inl (ups f j x)))) (d : decode cc pc = .ok (.bastore, 1)) (hf : ((ix m i).bind fun j => lt (sA σ a j x) (G j)) = some z) (hx : x = 0 ∨ x = 1) (kk : ∀ j s1, G j s1 = some z → V Γ D B w nL Q (kz Γ B Z s1) (12 * kz Γ B Z s1) s1 (pc + 1) lv st) : V Γ D B w nL Q (kz Γ B Z σ) (12 * kz Γ B Z σ) σ pc lv (.int x :: .int i :: .ref (B + a) :: st) :=
  b_zast X (G := fun j s1 => if sz s1 = sz σ then G j s1 else none) he hcs d (by rw [← hf]; exact congrArg ((ix m i).bind ·) (funext fun j => if_pos rfl)) hx (fun j s1 h => ifo h fun e h2 => by rw [← kz_eq (Γ := Γ) (B := B) (Z := Z) e]; exact kk j s1 h2)
theorem z_cast (X : Cx Γ own cc nL D B rm) {a m : Nat} {f : Nat → Int32} {i x : Int32} {α : Type} {G : Nat → St → Option α} {z : α} (he : (cells D B w σ)[a]? = some (.inl (D.2 0, m, .inl f))) (hcs : ∀ j, cells D B w (sA σ a j x) = (cells D B w σ).set a (.inl (D.2 0, m, .inl (ups f j x)))) (d : decode cc pc = .ok (.castore, 1)) (hf : (if vp_nar .char x = x then ((ix m i).bind fun j => lt (sA σ a j x) (G j)) else none) = some z) (kk : ∀ j s1, G j s1 = some z → V Γ D B w nL Q (kz Γ B Z s1) (12 * kz Γ B Z s1) s1 (pc + 1) lv st) : V Γ D B w nL Q (kz Γ B Z σ) (12 * kz Γ B Z σ) σ pc lv (.int x :: .int i :: .ref (B + a) :: st) :=
  b_cast X (G := fun j s1 => if sz s1 = sz σ then G j s1 else none) he hcs d (by rw [← hf]; exact congrArg (fun y => if vp_nar .char x = x then y else none) (congrArg ((ix m i).bind ·) (funext fun j => if_pos rfl))) (fun j s1 h => ifo h fun e h2 => by rw [← kz_eq (Γ := Γ) (B := B) (Z := Z) e]; exact kk j s1 h2)
theorem z_dputI (X : Cx Γ own cc nL D B rm) {x : Option Nat} {ci j idx N : Nat} {C : String} {T : u_T} {v : Int32} {ty : FieldType} {α : Type} {G : Nat × (Nat → Int32) × (Nat → Option Nat) × (Nat → Int64) → St → Option α} {z : α} (hc : vwCl[ci]? = some (C, T, N)) (hin : ∀ x ∈ u_ws C T N, x ∈ WT) (ty0 : Nat → FieldType) (hty : ∀ k, k < N → parseFieldDescriptor (T k).2.2.1 = some (ty0 k)) (hnm : ∀ a, a < N → ∀ b, b < N → a ≠ b → (T a).2.1 ≠ (T b).2.1)
    (hj : j < N) (hl : Cond.fieldLink own idx (T j).1 (T j).2.1 (T j).2.2.1 ∈ WT) (hfin : (T j).2.2.2 = false ∨ ((T j).2.2.2 = true ∧ (Gme Γ).name = "<init>" ∧ (T j).1 = own)) (hd : parseFieldDescriptor (T j).2.2.1 = some ty) (hn2 : narrow ty (.int v) = .int v) (hfit : fits ty (.int v) = true) (ht : (fty ci)[j]? = some 0) (d : decode cc pc = .ok (.putfield idx, 3)) (hf : ((dgo σ x ci).bind fun o => lt (sF σ o ci (ups o.2.1 j v, o.2.2)) (G o)) = some z)
    (kk : ∀ o s1, G o s1 = some z → V Γ D B w nL Q (kz Γ B Z s1) (12 * kz Γ B Z s1) s1 (pc + 3) lv st) : V Γ D B w nL Q (kz Γ B Z σ) (12 * kz Γ B Z σ) σ pc lv (.int v :: rfB B x :: st) :=
  b_dputI X (G := fun o s1 => if sz s1 = sz σ then G o s1 else none) hc hin ty0 hty hnm hj hl hfin hd hn2 hfit ht d (by rw [← hf]; exact congrArg ((dgo σ x ci).bind ·) (funext fun o => if_pos rfl)) (fun o s1 h => ifo h fun e h2 => by rw [← kz_eq (Γ := Γ) (B := B) (Z := Z) e]; exact kk o s1 h2)
/-- an object is born, while there is room -/
theorem z_new (X : Cx Γ own cc nL D B (RM Γ B Z fR lR)) {ci idx N : Nat} {C : String} {T : u_T} {α : Type} {G : St → Option α} {z : α} (hc : vwCl[ci]? = some (C, T, N)) (hin : ∀ x ∈ u_ws C T N, x ∈ WT) (ty0 : Nat → FieldType) (hty : ∀ k, k < N → parseFieldDescriptor (T k).2.2.1 = some (ty0 k)) (hcl : Cond.classLink own idx C ∈ WT) (hins : Cond.instantiable C N ∈ WT) (hini : Cond.initialized C ∈ WT) (hlen : (fty ci).length = N) (hdv : ∀ j t, (fty ci)[j]? = some t → defaultValue (ty0 j) = fv B (fun _ => 0, fun _ => none, fun _ => 0) j t) (hN : N ≤ 12)
    (d : decode cc pc = .ok (.new idx, 3)) (hf : (if sz σ < Z then lt (sN σ (.inl (ci, fun _ => 0, fun _ => none, fun _ => 0))) G else none) = some z) (kk : ∀ s1, G s1 = some z → V Γ D B w nL Q (kz Γ B Z s1) (12 * kz Γ B Z s1) s1 (pc + 3) lv (rfB B (some (sz σ)) :: st)) : V Γ D B w nL Q (kz Γ B Z σ) (12 * kz Γ B Z σ) σ pc lv st :=
  ifo hf fun hlt hf H locs ls cs ss hP hS hl hk hn => by
    have hB : (Gs Γ).heap.size ≤ B + sz σ := by rw [← hP.1]; exact hS.1
    have e1 : kz Γ B Z σ + 1 ≤ RZ Γ B Z := by unfold kz RZ; omega
    have e2 : kz Γ B Z σ + 1 ≤ kz Γ B Z (sN σ (.inl (ci, fun _ => 0, fun _ => none, fun _ => 0))) := by
      have : sz (sN σ (.inl (ci, fun _ => 0, fun _ => none, fun _ => 0))) = sz σ + 1 := rfl
      unfold kz RZ
      rw [this]
      omega
    exact r_new X hc hin ty0 hty hcl hins hini hlen hdv e1 (by show 12 * kz Γ B Z σ + N ≤ 12 * RZ Γ B Z; omega) d (V.mono e2 (by omega) (kk _ hf)) H locs ls cs ss hP hS hl hk hn
/-- a constructor that gives birth to mc cells -/
theorem z_callIB (X : Cx Γ own cc nL D B (RM Γ B Z fR lR)) {idx maxL fr lo mc ms a : Nat} {y : MethodName} {bytes : ByteArray} {as : Nat → List Value} {σ1 : St} {As : List Value} (hC : CC w y (Cond.code y bytes maxL none) fr lo as σ (fun _ => none) σ1 mc ms) (has : as B = .ref (B + a) :: As)
    (hml : Cond.methodLink own idx y ∈ WT) (hin : Cond.instanceMethod y ∈ WT) (hini : Cond.initialized y.cls ∈ WT) (hco : Cond.code y bytes maxL none ∈ WT) (hy1 : y.name = "<init>") (hd : y.cls ≠ "java/lang/invoke/MethodHandle" ∧ y.cls ≠ "java/lang/invoke/VarHandle" ∧ (parseMethodDescriptor y.desc).map (fun d => d.parameters.length) = some As.length)
    (hR : fr + 1 ≤ fR ∧ 8 + (maxL + 11) + lo ≤ lR) (hz : sz σ + mc ≤ sz σ1 ∧ sz σ1 ≤ Z) (hms : ms ≤ 12 * mc) (hrm : (st.map fun v => v.category).sum ≤ 8) (d : decode cc pc = .ok (.invokespecial idx, 3)) {pre : List Value} (hpre : pre = As.reverse ++ .ref (B + a) :: st)
    (kk : V Γ D B w nL Q (kz Γ B Z σ1) (12 * kz Γ B Z σ1) σ1 (pc + 3) lv st) : V Γ D B w nL Q (kz Γ B Z σ) (12 * kz Γ B Z σ) σ pc lv pre :=
  fun H locs ls cs ss hP hS hl hk hn => by
    have hB : (Gs Γ).heap.size ≤ B + sz σ := by rw [← hP.1]; exact hS.1
    have e1 : kz Γ B Z σ + mc ≤ RZ Γ B Z := by unfold kz RZ; omega
    have e2 : kz Γ B Z σ + mc ≤ kz Γ B Z σ1 := by unfold kz RZ; omega
    exact r_callI X hC has hml hin hini hco hy1 hd hR e1 (by show 12 * kz Γ B Z σ + ms ≤ 12 * RZ Γ B Z; omega) hrm d hpre (V.mono e2 (by omega) kk) H locs ls cs ss hP hS hl hk hn
theorem z_callXV (X : Cx Γ own cc nL D B (RM Γ B Z fR lR)) (Y : Xx Γ B) {idx maxL fr lo a : Nat} {C : String} {y : MethodName} {bytes : ByteArray} {ret : Option FieldType} {as : Nat → List Value} {v : Nat → Option Value} {σ1 : St} {As : List Value} (hC : CX w y (Cond.code y bytes maxL ret) fr lo (Z - sz σ) (12 * (Z - sz σ)) as σ (fun B => .inl (v B)) σ1 (sz σ1 - sz σ) (12 * (sz σ1 - sz σ))) (has : as B = .ref (B + a) :: As)
    (hml : Cond.methodLink own idx y ∈ WT) (hin : Cond.instanceMethod y ∈ WT) (hse : Cond.selects C y y ∈ WT) (hini : Cond.initialized C ∈ WT) (hco : Cond.code y bytes maxL ret ∈ WT) (hd : y.cls = C ∧ y.cls ≠ "java/lang/invoke/MethodHandle" ∧ y.cls ≠ "java/lang/invoke/VarHandle" ∧ (parseMethodDescriptor y.desc).map (fun d => d.parameters.length) = some As.length) (hrc : Rc D B w σ C a)
    (hR : fr + 1 ≤ fR ∧ 8 + (maxL + 11) + lo ≤ lR) (hz : sz σ1 ≤ Z) (hrm : (st.map fun v => v.category).sum ≤ 8) (d : decode cc pc = .ok (.invokevirtual idx, 3)) {pre : List Value} (hpre : pre = As.reverse ++ .ref (B + a) :: st)
    (kk : V Γ D B w nL Q (kz Γ B Z σ1) (12 * kz Γ B Z σ1) σ1 (pc + 3) lv ((v B).toList ++ st)) : V Γ D B w nL Q (kz Γ B Z σ) (12 * kz Γ B Z σ) σ pc lv pre := by
  subst hpre
  exact fun H locs ls cs ss hP hS hl hk hn => by
    have hB : (Gs Γ).heap.size ≤ B + sz σ := by rw [← hP.1]; exact hS.1
    have hR9 := X.2.2.2.2.2.2.2.2
    have e1 : kz Γ B Z σ + (Z - sz σ) ≤ RZ Γ B Z := by unfold kz RZ; omega
    obtain ⟨ci, N, T, fs, hcl, hat⟩ := hrc
    refine w_callX hP hS (vz_runV (rc := Z - sz σ) (rs := 12 * (Z - sz σ)) (As := As) (rest := st) ⟨X.1, X.2.1, X.2.2.1, X.2.2.2.1, X.2.2.2.2.1⟩ (hC Γ.2.1 D B Y.1) (cwV As.length X.2.2.2.2.1 (WT_cons hml (WT_cons hin (WT_cons hse (WT_cons hini (WT_call hco))))) rfl rfl rfl hd ⟨by show fr + 1 ≤ (GR Γ).frames; rw [hR9]; exact hR.1, by show 8 + (maxL + 11) + lo ≤ (GR Γ).locals; rw [hR9]; exact hR.2⟩) ⟨blindX, recv X.2.2.2.2.2.1.1 hcl (hat H hP), fun U hU hW => ⟨by rw [has], by rw [hU]; exact hP, KK.moved hW X.2.2.2.2.2.1, KE.to hW Y.2.1 (by rw [hU]; exact hS)⟩⟩ rfl rfl hl.1 rfl (lv_room hrm) d ⟨by show cs + (Z - sz σ) ≤ (GR Γ).cells; rw [hR9]; show cs + (Z - sz σ) ≤ RZ Γ B Z; omega, by show ss + 12 * (Z - sz σ) ≤ (GR Γ).slots; rw [hR9]; show ss + 12 * (Z - sz σ) ≤ 12 * RZ Γ B Z; omega⟩) (fun v9 hv H1 locs1 hsz hP1 hS1 => ?_) (fun E hE => by cases hE)
    cases hv
    have e2 : kz Γ B Z σ + (sz σ1 - sz σ) ≤ kz Γ B Z σ1 := by unfold kz RZ; omega
    exact kk H1 locs1 ls _ _ hP1 hS1 hl (by omega) (by omega)
theorem z_callXVq (X : Cx Γ own cc nL D B (RM Γ B Z fR lR)) (Y : Xx Γ B) {idx maxL fr lo a : Nat} {C : String} {y : MethodName} {bytes : ByteArray} {ret : Option FieldType} {as : Nat → List Value} {r : Option Nat} {σ1 : St} {As : List Value} (hC : CX w y (Cond.code y bytes maxL ret) fr lo (Z - sz σ) (12 * (Z - sz σ)) as σ (fun B => .inl (some (rfB B r))) σ1 (sz σ1 - sz σ) (12 * (sz σ1 - sz σ))) (has : as B = .ref (B + a) :: As)
    (hml : Cond.methodLink own idx y ∈ WT) (hin : Cond.instanceMethod y ∈ WT) (hse : Cond.selects C y y ∈ WT) (hini : Cond.initialized C ∈ WT) (hco : Cond.code y bytes maxL ret ∈ WT) (hd : y.cls = C ∧ y.cls ≠ "java/lang/invoke/MethodHandle" ∧ y.cls ≠ "java/lang/invoke/VarHandle" ∧ (parseMethodDescriptor y.desc).map (fun d => d.parameters.length) = some As.length) (hrc : Rc D B w σ C a)
    (hR : fr + 1 ≤ fR ∧ 8 + (maxL + 11) + lo ≤ lR) (hz : sz σ1 ≤ Z) (hrm : (st.map fun v => v.category).sum ≤ 8) (d : decode cc pc = .ok (.invokevirtual idx, 3)) {pre : List Value} (hpre : pre = As.reverse ++ .ref (B + a) :: st)
    (kk : V Γ D B w nL Q (kz Γ B Z σ1) (12 * kz Γ B Z σ1) σ1 (pc + 3) lv (rfB B r :: st)) : V Γ D B w nL Q (kz Γ B Z σ) (12 * kz Γ B Z σ) σ pc lv pre := z_callXV (v := fun B => some (rfB B r)) X Y hC has hml hin hse hini hco hd hrc hR hz hrm d hpre kk
theorem z_callXS (X : Cx Γ own cc nL D B (RM Γ B Z fR lR)) (Y : Xx Γ B) {idx maxL fr lo : Nat} {y : MethodName} {bytes : ByteArray} {ret : Option FieldType} {as : Nat → List Value} {v : Nat → Option Value} {σ1 : St} {As : List Value} (hC : CX w y (Cond.code y bytes maxL ret) fr lo (Z - sz σ) (12 * (Z - sz σ)) as σ (fun B => .inl (v B)) σ1 (sz σ1 - sz σ) (12 * (sz σ1 - sz σ))) (has : as B = As)
    (hml : Cond.methodLink own idx y ∈ WT) (hstt : Cond.static y ∈ WT) (hini : Cond.initialized y.cls ∈ WT) (hco : Cond.code y bytes maxL ret ∈ WT) (hd : y.cls ≠ "java/lang/invoke/MethodHandle" ∧ y.cls ≠ "java/lang/invoke/VarHandle" ∧ (parseMethodDescriptor y.desc).map (fun d => d.parameters.length) = some As.length)
    (hR : fr + 1 ≤ fR ∧ 8 + (maxL + 11) + lo ≤ lR) (hz : sz σ1 ≤ Z) (hrm : (st.map fun v => v.category).sum ≤ 8) (d : decode cc pc = .ok (.invokestatic idx, 3)) {pre : List Value} (hpre : pre = As.reverse ++ st)
    (kk : V Γ D B w nL Q (kz Γ B Z σ1) (12 * kz Γ B Z σ1) σ1 (pc + 3) lv ((v B).toList ++ st)) : V Γ D B w nL Q (kz Γ B Z σ) (12 * kz Γ B Z σ) σ pc lv pre := by
  subst hpre
  exact fun H locs ls cs ss hP hS hl hk hn => by
    have hB : (Gs Γ).heap.size ≤ B + sz σ := by rw [← hP.1]; exact hS.1
    have hR9 := X.2.2.2.2.2.2.2.2
    have e1 : kz Γ B Z σ + (Z - sz σ) ≤ RZ Γ B Z := by unfold kz RZ; omega
    refine w_callX hP hS (vz_runS (rc := Z - sz σ) (rs := 12 * (Z - sz σ)) (As := As) (rest := st) ⟨X.1, X.2.1, X.2.2.1, X.2.2.2.1, X.2.2.2.2.1⟩ (hC Γ.2.1 D B Y.1) (va_cwS As.length X.2.2.2.2.1 (WT_cons hml (WT_cons hstt (WT_cons hini (WT_call hco)))) rfl rfl rfl hd ⟨by show fr + 1 ≤ (GR Γ).frames; rw [hR9]; exact hR.1, by show 8 + (maxL + 11) + lo ≤ (GR Γ).locals; rw [hR9]; exact hR.2⟩) ⟨blindX, fun U hU hW => ⟨by rw [has], by rw [hU]; exact hP, KK.moved hW X.2.2.2.2.2.1, KE.to hW Y.2.1 (by rw [hU]; exact hS)⟩⟩ rfl rfl hl.1 rfl (lv_room hrm) d ⟨by show cs + (Z - sz σ) ≤ (GR Γ).cells; rw [hR9]; show cs + (Z - sz σ) ≤ RZ Γ B Z; omega, by show ss + 12 * (Z - sz σ) ≤ (GR Γ).slots; rw [hR9]; show ss + 12 * (Z - sz σ) ≤ 12 * RZ Γ B Z; omega⟩) (fun v9 hv H1 locs1 hsz hP1 hS1 => ?_) (fun E hE => by cases hE)
    cases hv
    have e2 : kz Γ B Z σ + (sz σ1 - sz σ) ≤ kz Γ B Z σ1 := by unfold kz RZ; omega
    exact kk H1 locs1 ls _ _ hP1 hS1 hl (by omega) (by omega)
theorem z_callXSq (X : Cx Γ own cc nL D B (RM Γ B Z fR lR)) (Y : Xx Γ B) {idx maxL fr lo : Nat} {y : MethodName} {bytes : ByteArray} {ret : Option FieldType} {as : Nat → List Value} {r : Option Nat} {σ1 : St} {As : List Value} (hC : CX w y (Cond.code y bytes maxL ret) fr lo (Z - sz σ) (12 * (Z - sz σ)) as σ (fun B => .inl (some (rfB B r))) σ1 (sz σ1 - sz σ) (12 * (sz σ1 - sz σ))) (has : as B = As)
    (hml : Cond.methodLink own idx y ∈ WT) (hstt : Cond.static y ∈ WT) (hini : Cond.initialized y.cls ∈ WT) (hco : Cond.code y bytes maxL ret ∈ WT) (hd : y.cls ≠ "java/lang/invoke/MethodHandle" ∧ y.cls ≠ "java/lang/invoke/VarHandle" ∧ (parseMethodDescriptor y.desc).map (fun d => d.parameters.length) = some As.length)
    (hR : fr + 1 ≤ fR ∧ 8 + (maxL + 11) + lo ≤ lR) (hz : sz σ1 ≤ Z) (hrm : (st.map fun v => v.category).sum ≤ 8) (d : decode cc pc = .ok (.invokestatic idx, 3)) {pre : List Value} (hpre : pre = As.reverse ++ st)
    (kk : V Γ D B w nL Q (kz Γ B Z σ1) (12 * kz Γ B Z σ1) σ1 (pc + 3) lv (rfB B r :: st)) : V Γ D B w nL Q (kz Γ B Z σ) (12 * kz Γ B Z σ) σ pc lv pre := z_callXS (v := fun B => some (rfB B r)) X Y hC has hml hstt hini hco hd hR hz hrm d hpre kk
/-- the ends -/
theorem z_aret (X : Cx Γ own cc nL D B rm) {x r : Option Nat} {σ' : St} {rt : String} (hr : (Gme Γ).sig.returnType = some (.object rt)) (hf : some (x, σ) = some (r, σ')) (d : decode cc pc = .ok (.areturn, 1)) : V Γ D B w nL (QX Γ D B w σ' (.inl (some (rfB B r))) (RZ Γ B (sz σ')) (12 * RZ Γ B (sz σ'))) (kz Γ B Z σ) (12 * kz Γ B Z σ) σ pc lv [rfB B x] := by
  cases hf
  exact V.ret (e_aret X hr rfl kz_l (Nat.mul_le_mul_left 12 kz_l) d)
def exN : Nat → String := fun e => match e with
  | 0 => "java/lang/IllegalArgumentException"
  | 1 => "java/lang/IllegalStateException"
  | 2 => "java/lang/IndexOutOfBoundsException"
  | _ => "java/util/NoSuchElementException"
def ouI : Int32 ⊕ Nat → Ou := fun r => match r with
  | .inl x => .inl (some (.int x))
  | .inr e => .inr (exN e)
def ouL : Int64 ⊕ Nat → Ou := fun r => match r with
  | .inl x => .inl (some (.long x))
  | .inr e => .inr (exN e)
def ouV : Unit ⊕ Nat → Ou := fun r => match r with
  | .inl x => .inl none
  | .inr e => .inr (exN e)
theorem x_iret (X : Cx Γ own cc nL D B rm) {x : Int32} {r : Int32 ⊕ Nat} {σ' : St} (hr : (Gme Γ).sig.returnType = some .int) (hf : some ((.inl x : Int32 ⊕ Nat), σ) = some (r, σ')) (d : decode cc pc = .ok (.ireturn, 1)) : V Γ D B w nL (QX Γ D B w σ' (ouI r) (RZ Γ B Z) (12 * RZ Γ B Z)) (kz Γ B Z σ) (12 * kz Γ B Z σ) σ pc lv [.int x] := by
  cases hf
  exact V.ret (e_iret X hr rfl kz_r (Nat.mul_le_mul_left 12 kz_r) d)
theorem x_zret (X : Cx Γ own cc nL D B rm) {x : Int32} {r : Int32 ⊕ Nat} {σ' : St} (hr : (Gme Γ).sig.returnType = some .boolean) (hx : x = 0 ∨ x = 1) (hf : some ((.inl x : Int32 ⊕ Nat), σ) = some (r, σ')) (d : decode cc pc = .ok (.ireturn, 1)) : V Γ D B w nL (QX Γ D B w σ' (ouI r) (RZ Γ B Z) (12 * RZ Γ B Z)) (kz Γ B Z σ) (12 * kz Γ B Z σ) σ pc lv [.int x] := by
  cases hf
  exact V.ret (e_zret X hr hx rfl kz_r (Nat.mul_le_mul_left 12 kz_r) d)
theorem x_lret (X : Cx Γ own cc nL D B rm) {x : Int64} {r : Int64 ⊕ Nat} {σ' : St} (hr : (Gme Γ).sig.returnType = some .long) (hf : some ((.inl x : Int64 ⊕ Nat), σ) = some (r, σ')) (d : decode cc pc = .ok (.lreturn, 1)) : V Γ D B w nL (QX Γ D B w σ' (ouL r) (RZ Γ B Z) (12 * RZ Γ B Z)) (kz Γ B Z σ) (12 * kz Γ B Z σ) σ pc lv [.long x] := by
  cases hf
  exact V.ret (e_lret X hr rfl kz_r (Nat.mul_le_mul_left 12 kz_r) d)
theorem x_vret (X : Cx Γ own cc nL D B rm) {r : Unit ⊕ Nat} {σ' : St} (hr : (Gme Γ).sig.returnType = none) (hf : some ((.inl () : Unit ⊕ Nat), σ) = some (r, σ')) (d : decode cc pc = .ok (.return_, 1)) : V Γ D B w nL (QX Γ D B w σ' (ouV r) (RZ Γ B Z) (12 * RZ Γ B Z)) (kz Γ B Z σ) (12 * kz Γ B Z σ) σ pc lv [] := by
  cases hf
  exact V.ret (e_vret X hr rfl kz_r (Nat.mul_le_mul_left 12 kz_r) d)
/-- the words of a throw: of the tables, and each good, or one that KE has -/
def okX (x : Cond) : Bool := goodWord x || (match x with | .declares _ => true | .castable _ _ => true | _ => false)
theorem okX_at {args : Array Value} {s : State} {B : Nat} (hg : ∀ x ∈ WT, x.before args s = true) (hE : KE B s) {x : Cond} (hx : x ∈ lw_tbl) (ho : okX x = true) : x.before args s = true := by
  by_cases g : goodWord x = true
  · exact hg x (WT_in hx g)
  · unfold okX at ho
    rw [show goodWord x = false by simpa using g, Bool.false_or] at ho
    cases x <;> first | (cases ho; done) | skip
    · exact va_Nw.use rfl (hE.2.2.2.1 _ hx)
    · exact va_Nw.use rfl (hE.2.2.2.2.1 _ _ hx)
/-- throw new E("text") -/
theorem x_throw (X : Cx Γ "Pagerloom" cc nL D B (RM Γ B Z fR lR)) (Y : Xx Γ B) {e : Nat} {text : String} {names : List String} {ik is ic : Nat} {ρ : Type} {out : ρ ⊕ Nat → Ou} {r : ρ ⊕ Nat} {σ' : St} (hcls : Bundle.fit (exN e) = true) (hnames : ∀ n ∈ names, Bundle.fit n = true)
    (hk1 : Cond.classLink "Pagerloom" ik (exN e) ∈ WT) (hini : Cond.initialized (exN e) ∈ WT) (hat : ∀ x ∈ vx_atS "Pagerloom" ic (exN e) names, x ∈ lw_tbl ∧ okX x = true) (hgood : ∀ x ∈ Cond.classLink "Pagerloom" ik (exN e) :: Cond.initialized (exN e) :: vx_atS "Pagerloom" ic (exN e) names, vx_ot x = true) (hstr : Cond.stringRef "Pagerloom" is text ∈ lw_tbl)
    (ho : out (.inr e) = .inr (exN e)) (hRf : names.length + 3 < fR) (hRl : (st.map fun v => v.category).sum + (13 * (names.length + 1) + 43) ≤ lR)
    (d0 : decode cc pc = .ok (.new ik, 3)) (d3 : decode cc (pc + 3) = .ok (.dup, 1)) (d4 : decode cc (pc + 4) = .ok (.ldc is, 2)) (d6 : decode cc (pc + 6) = .ok (.invokespecial ic, 3)) (d9 : decode cc (pc + 9) = .ok (.athrow, 1))
    (hf : (if sz σ < Z then some ((.inr e : ρ ⊕ Nat), sz' σ (sz σ + 1)) else none) = some (r, σ')) : V Γ D B w nL (QX Γ D B w σ' (out r) (RZ Γ B Z) (12 * RZ Γ B Z)) (kz Γ B Z σ) (12 * kz Γ B Z σ) σ pc lv st :=
  ifo hf fun hlt hf H locs ls cs ss hP hS hl hk hn => by
    cases hf
    have hB : (Gs Γ).heap.size ≤ B + sz σ := by rw [← hP.1]; exact hS.1
    have e1 : kz Γ B Z σ + 1 ≤ RZ Γ B Z := by unfold kz RZ; omega
    have hR9 := X.2.2.2.2.2.2.2.2
    obtain ⟨sa, hsa⟩ := Y.2.1.2.2.1 is text hstr
    refine vx_throwS (A := fun q => B ≤ q) (sa := sa) X.1 X.2.1 Y.1 X.2.2.2.1 hcls hnames (X.w hk1) (X.w hini) hsa (fun x hx => okX_at X.2.2.2.2.1 Y.2.1 (hat x hx).1 (hat x hx).2) hgood Y.2.1.1 Y.2.1.2.1 hS (hl.1.trans X.2.2.1.symm) d0 d3 d4 d6 d9 (fun x hx => (Y.2.2 x hx).elim) (by show _ < (GR Γ).frames; rw [hR9]; exact hRf) (by show _ ≤ (GR Γ).locals; rw [hR9]; exact hRl) (by show cs + 1 ≤ (GR Γ).cells; rw [hR9]; show cs + 1 ≤ RZ Γ B Z; omega) (by show ss + 6 ≤ (GR Γ).slots; rw [hR9]; show ss + 6 ≤ 12 * RZ Γ B Z; omega) X.2.2.2.2.2.2.1 (fun t ht hz hq => ?_) (fun z hz => hS.2.2 z hz) (by omega) (by omega)
    have hz9 : H.size ≤ t.heap.size := by omega
    have hp := hP.more hz9 hq
    have e3 : t.heap.size - B = sz σ + 1 := by have := hP.1; omega
    rw [e3] at hp
    exact ⟨ho, hp, Nat.le_trans hS.1 hz9, fun q h1 h2 => (hq q (Nat.lt_of_lt_of_le h1 hS.1)).trans (hS.2.1 q h1 h2)⟩
/-- throw new E("text"), the text by a wide index -/
theorem x_throwW (X : Cx Γ "Pagerloom" cc nL D B (RM Γ B Z fR lR)) (Y : Xx Γ B) {e : Nat} {text : String} {names : List String} {ik is ic : Nat} {ρ : Type} {out : ρ ⊕ Nat → Ou} {r : ρ ⊕ Nat} {σ' : St} (hcls : Bundle.fit (exN e) = true) (hnames : ∀ n ∈ names, Bundle.fit n = true)
    (hk1 : Cond.classLink "Pagerloom" ik (exN e) ∈ WT) (hini : Cond.initialized (exN e) ∈ WT) (hat : ∀ x ∈ vx_atS "Pagerloom" ic (exN e) names, x ∈ lw_tbl ∧ okX x = true) (hgood : ∀ x ∈ Cond.classLink "Pagerloom" ik (exN e) :: Cond.initialized (exN e) :: vx_atS "Pagerloom" ic (exN e) names, vx_ot x = true) (hstr : Cond.stringRef "Pagerloom" is text ∈ lw_tbl)
    (ho : out (.inr e) = .inr (exN e)) (hRf : names.length + 3 < fR) (hRl : (st.map fun v => v.category).sum + (13 * (names.length + 1) + 43) ≤ lR)
    (d0 : decode cc pc = .ok (.new ik, 3)) (d3 : decode cc (pc + 3) = .ok (.dup, 1)) (d4 : decode cc (pc + 4) = .ok (.ldc_w is, 3)) (d7 : decode cc (pc + 7) = .ok (.invokespecial ic, 3)) (d10 : decode cc (pc + 10) = .ok (.athrow, 1))
    (hf : (if sz σ < Z then some ((.inr e : ρ ⊕ Nat), sz' σ (sz σ + 1)) else none) = some (r, σ')) : V Γ D B w nL (QX Γ D B w σ' (out r) (RZ Γ B Z) (12 * RZ Γ B Z)) (kz Γ B Z σ) (12 * kz Γ B Z σ) σ pc lv st :=
  ifo hf fun hlt hf H locs ls cs ss hP hS hl hk hn => by
    cases hf
    have hB : (Gs Γ).heap.size ≤ B + sz σ := by rw [← hP.1]; exact hS.1
    have e1 : kz Γ B Z σ + 1 ≤ RZ Γ B Z := by unfold kz RZ; omega
    have hR9 := X.2.2.2.2.2.2.2.2
    obtain ⟨sa, hsa⟩ := Y.2.1.2.2.1 is text hstr
    refine vx_throwSW (A := fun q => B ≤ q) (sa := sa) X.1 X.2.1 Y.1 X.2.2.2.1 hcls hnames (X.w hk1) (X.w hini) hsa (fun x hx => okX_at X.2.2.2.2.1 Y.2.1 (hat x hx).1 (hat x hx).2) hgood Y.2.1.1 Y.2.1.2.1 hS (hl.1.trans X.2.2.1.symm) d0 d3 d4 d7 d10 (fun x hx => (Y.2.2 x hx).elim) (by show _ < (GR Γ).frames; rw [hR9]; exact hRf) (by show _ ≤ (GR Γ).locals; rw [hR9]; exact hRl) (by show cs + 1 ≤ (GR Γ).cells; rw [hR9]; show cs + 1 ≤ RZ Γ B Z; omega) (by show ss + 6 ≤ (GR Γ).slots; rw [hR9]; show ss + 6 ≤ 12 * RZ Γ B Z; omega) X.2.2.2.2.2.2.1 (fun t ht hz hq => ?_) (fun z hz => hS.2.2 z hz) (by omega) (by omega)
    have hz9 : H.size ≤ t.heap.size := by omega
    have hp := hP.more hz9 hq
    have e3 : t.heap.size - B = sz σ + 1 := by have := hP.1; omega
    rw [e3] at hp
    exact ⟨ho, hp, Nat.le_trans hS.1 hz9, fun q h1 h2 => (hq q (Nat.lt_of_lt_of_le h1 hS.1)).trans (hS.2.1 q h1 h2)⟩
end ZW
/-! NoSuchElementException: its constructor passes its text on by its own word 13 -/
section ZN
abbrev nsN : String := "java/util/NoSuchElementException"
abbrev nsR : String := "java/lang/RuntimeException"
abbrev nsE : String := "java/lang/Exception"
/-- the words of such a throw -/
def nsA (own : String) (ic : Nat) : List Cond :=
  (Bundle.throwableAtoms ++ Bundle.throwableSAtoms ++ Bundle.chainSAtoms nsR [nsE]) ++ (Bundle.passSAtoms nsN nsR 13 prog_24_method_4_code ++
  [.methodLink own ic (Bundle.initS nsN), .instantiable nsN 6, .castable nsN nsN, .selects nsN Bundle.tFill0 Bundle.tFill0, .selects nsN Bundle.tFill Bundle.tFill,
   .lays nsN Bundle.tN "cause" "Ljava/lang/Throwable;", .lays nsN Bundle.tN "stackTrace" Bundle.steD, .lays nsN Bundle.tN "suppressedExceptions" Bundle.listD, .lays nsN Bundle.tN "detailMessage" "Ljava/lang/String;",
   .isRef (.static Bundle.tN "UNASSIGNED_STACK" Bundle.steD), .isRef (.static Bundle.tN "SUPPRESSED_SENTINEL" Bundle.listD),
   .fieldLink Bundle.tN 198 Bundle.tN "backtrace" "Ljava/lang/Object;", .lays Bundle.tN Bundle.tN "backtrace" "Ljava/lang/Object;", .lays nsN Bundle.tN "backtrace" "Ljava/lang/Object;"])
def nsB (own : String) (ic : Nat) : List Cond := (nsA own ic).filter vx_no
theorem nsA_l {own : String} {ic : Nat} {x : Cond} (h : x ∈ Bundle.throwableAtoms ++ Bundle.throwableSAtoms ++ Bundle.chainSAtoms nsR [nsE]) : x ∈ nsA own ic := List.mem_append_left _ h
theorem nsA_r {own : String} {ic : Nat} {x : Cond} (h : x ∈ Bundle.passSAtoms nsN nsR 13 prog_24_method_4_code ++
  [.methodLink own ic (Bundle.initS nsN), .instantiable nsN 6, .castable nsN nsN, .selects nsN Bundle.tFill0 Bundle.tFill0, .selects nsN Bundle.tFill Bundle.tFill,
   .lays nsN Bundle.tN "cause" "Ljava/lang/Throwable;", .lays nsN Bundle.tN "stackTrace" Bundle.steD, .lays nsN Bundle.tN "suppressedExceptions" Bundle.listD, .lays nsN Bundle.tN "detailMessage" "Ljava/lang/String;",
   .isRef (.static Bundle.tN "UNASSIGNED_STACK" Bundle.steD), .isRef (.static Bundle.tN "SUPPRESSED_SENTINEL" Bundle.listD),
   .fieldLink Bundle.tN 198 Bundle.tN "backtrace" "Ljava/lang/Object;", .lays Bundle.tN Bundle.tN "backtrace" "Ljava/lang/Object;", .lays nsN Bundle.tN "backtrace" "Ljava/lang/Object;"]) : x ∈ nsA own ic := List.mem_append_right _ h
theorem nsA_p {own : String} {ic : Nat} {x : Cond} (h : x ∈ Bundle.passSAtoms nsN nsR 13 prog_24_method_4_code) : x ∈ nsA own ic := nsA_r (List.mem_append_left _ h)
variable {p : Program} {l : Launch} {e : Env} {R : Room} {s : State} {m₀ : MethodId} {args : Array Value} {below : List Frame} {meth : Method} {c : Code} {W : State} {locs : List Loc} {cells slots : Nat}
set_option maxHeartbeats 1000000 in
/-- its constructor and athrow, from the two references and the text -/
theorem ns_ctor (X : Stand p l e R s m₀ args below meth c W locs cells slots) (hexec : p.tables.exec = Jvm.exec) (htr : e.platform.stackTraces = false) {own : String} {ic : Nat}
    (hown : s.vm.findClass own = some m₀.cls) (h : ∀ a ∈ nsA own ic, a.before args s = true)
    (hlocs : ∀ x ∈ locs, ∀ cell, s.heap[x.base]? = some cell → cell.vm.isStatics = false)
    {a : Addr} {cX : ClassId} {kX : Class} (hfoundX : s.vm.findClass nsN = some cX) (hkX : s.vm.classes[cX]? = some kX) (hcell : W.heap[a]? = some (freshCell cX kX)) (hnew : s.heap.size ≤ a)
    {msg : Value} (hmsg : msg.isRef = true)
    {g : JFrame} (hg : g.method = m₀) (hsize : g.locals.size = c.maxLocals) (hlocked : g.locked = none) (hentered : g.entered = []) {rest : List Value} (hstack : g.stack = msg :: .ref a :: .ref a :: rest)
    (hd6 : decode c.code g.pc = .ok (.invokespecial ic, 3)) (hd9 : decode c.code (g.pc + 3) = .ok (.athrow, 1)) (hout : ∀ x ∈ c.exceptionTable.toList, covers x (g.pc + 3) = false)
    (hRframes : 5 < R.frames) (hRlocals : 2 * g.monitorRoom + ((Value.ref a :: rest).map fun v => v.category).sum + 81 ≤ R.locals) (hlocks : meth.locks = false) :
    ∃ U : State, Steps p.tables e below (W.setTop g) U ∧ U.status = .running ∧ Ended U below (.threw a) ∧ s.WarmedH U.vm ∧ s.sameButNew ({ U with vm := s.vm } : State) locs cells slots ∧
      ∃ ce, U.heap[a]? = some ce ∧ s.vm.findClass nsN = some ce.cls ∧ ce.vm = .none := by
  have howns : e.platform.frameOwnsMonitors = true := by rw [X.admits.platform]
  have hfin : e.platform.finalization = false := by rw [X.admits.platform]
  have hpl : e.platform.magicAccessors = ({} : Platform).magicAccessors := by rw [X.admits.platform]
  have b : ∀ x, x ∈ nsA own ic → x.holds args s none s [] = true := fun x hx => h x hx
  obtain ⟨T, Z0, L, -, Y⟩ := ThrowableC.of_atoms (args := args) howns hfin hpl (fun x hx => h x (nsA_l (by simp [hx])))
  obtain ⟨Z, M, LZ, LM, hnZ⟩ := Init0T.ofS_atoms (args := args) hpl L Y (fun x hx => h x (nsA_l (by simp [hx])))
  obtain ⟨P2, Ps, hlen, L2, hL, hP2m, hl2, hpass⟩ := Bundle.chainS (args := args) hpl hnZ [nsE] nsR (by decide +kernel) (by decide +kernel) (fun x hx => h x (nsA_l (by simp [hx])))
  obtain ⟨P1, L1, hP1m, hP1s⟩ := PassC.ofS_atoms (args := args) (s := s) hpl (X := nsN) (Y := nsR) (index := 13) (bytes := prog_24_method_4_code) (by decide +kernel) (by decide +kernel) (by decide +kernel) (by decide +kernel) (by decide +kernel) (by decide +kernel) (fun x hx => h x (nsA_p hx))
  have hl1 : P1.sup = P2.m := Option.some.inj (hP1s.symm.trans hP2m)
  have hfound : s.vm.findClass nsN = some P1.m.cls := findClass_of_methodNamed hP1m
  cases Option.some.inj (hfoundX.symm.trans hfound)
  obtain ⟨c1, k1, hc1, hk, hord, -, -, hn6⟩ := Cond.instantiable_spec (b (.instantiable nsN 6) (nsA_r (by simp)))
  cases Option.some.inj (hc1.symm.trans hfound)
  cases Option.some.inj (hkX.symm.trans hk)
  have hsel0 : selectMethod e.platform s.vm P1.m.cls T.fill0 = .method T.fill0 := by
    obtain ⟨c2, r2, m2, q1, q2, q3, q4, -⟩ := Cond.selects_spec (b (.selects nsN Bundle.tFill0 Bundle.tFill0) (nsA_r (by simp)))
    cases Option.some.inj (q1.symm.trans hfound)
    cases Option.some.inj (q2.symm.trans (State.methodFound?_of_named Y.fill0 (by decide)))
    cases Option.some.inj (q3.symm.trans Y.fill0)
    rw [Launch.admits_selectMethod X.admits]; exact q4
  have hselF : selectMethod e.platform s.vm P1.m.cls T.fill = .method T.fill := by
    obtain ⟨c2, r2, m2, q1, q2, q3, q4, -⟩ := Cond.selects_spec (b (.selects nsN Bundle.tFill Bundle.tFill) (nsA_r (by simp)))
    cases Option.some.inj (q1.symm.trans hfound)
    cases Option.some.inj (q2.symm.trans (State.methodFound?_of_named Y.fill (by decide)))
    cases Option.some.inj (q3.symm.trans Y.fill)
    rw [Launch.admits_selectMethod X.admits]; exact q4
  obtain ⟨cellS0, hcS0, hiss⟩ := Y.statics
  obtain ⟨u0, hu0⟩ := Cond.staticRefV Y.unassigned L.unassignedStatic L.statics hcS0 hiss (b (.isRef (.static Bundle.tN "UNASSIGNED_STACK" Bundle.steD)) (nsA_r (by simp)))
  obtain ⟨sen, hsen⟩ := Cond.staticRefV Y.sentinel L.sentinelStatic L.statics hcS0 hiss (b (.isRef (.static Bundle.tN "SUPPRESSED_SENTINEL" Bundle.listD)) (nsA_r (by simp)))
  obtain ⟨ci198, i198, fB, hk198, hg198, ha198, hsB, -, hnB, htB, hffB⟩ := Cond.ownField (t := .object "java/lang/Object") Y.found L.cls (by decide +kernel) (b (.fieldLink Bundle.tN 198 Bundle.tN "backtrace" "Ljava/lang/Object;") (nsA_r (by simp))) (b (.lays Bundle.tN Bundle.tN "backtrace" "Ljava/lang/Object;") (nsA_r (by simp))) e.platform hpl
  obtain ⟨cellS, hcS', heS, -, hkeep⟩ := X.same.2.2.2.2.2 T.aS cellS0 hcS0
  have hcellS : W.heap[T.aS]? = some cellS := hcS'
  have hnl : ∀ i, (⟨T.aS, i⟩ : Loc) ∉ locs := fun i hm => by
    have h9 := hlocs _ hm cellS0 hcS0
    rw [hiss] at h9; cases h9
  have hknownS : cellS.vm ≠ .unknown := by
    rw [heS]; intro hu
    rw [show cellS0.vm = .unknown from hu] at hiss
    cases hiss
  have hneS : T.aS ≠ a := Nat.ne_of_lt (Nat.lt_of_lt_of_le (Array.getElem?_eq_some_iff.mp hcS0).1 hnew)
  obtain ⟨iM, hffM⟩ := Y.msg
  obtain ⟨tyC, dC, hdC, hdnC⟩ := Cond.laysAt hfound hk Y.cause (b (.lays nsN Bundle.tN "cause" "Ljava/lang/Throwable;") (nsA_r (by simp)))
  obtain ⟨tyS, dS, hdS, hdnS⟩ := Cond.laysAt hfound hk Y.stack (b (.lays nsN Bundle.tN "stackTrace" Bundle.steD) (nsA_r (by simp)))
  obtain ⟨tyP, dP, hdP, hdnP⟩ := Cond.laysAt hfound hk Y.supp (b (.lays nsN Bundle.tN "suppressedExceptions" Bundle.listD) (nsA_r (by simp)))
  obtain ⟨tyM, dM, hdM, hdnM⟩ := Cond.laysAt hfound hk hffM (b (.lays nsN Bundle.tN "detailMessage" "Ljava/lang/String;") (nsA_r (by simp)))
  obtain ⟨tyB, dB, hdB, hdnB⟩ := Cond.laysAt hfound hk hffB (b (.lays nsN Bundle.tN "backtrace" "Ljava/lang/Object;") (nsA_r (by simp)))
  have bC := Cond.laysApart hdB hdC hdnB hdnC (by rw [hnB, Y.causeName]; decide)
  have bS := Cond.laysApart hdB hdS hdnB hdnS (by rw [hnB, Y.stackName]; decide)
  have bP := Cond.laysApart hdB hdP hdnB hdnP (by rw [hnB, Y.suppName]; decide)
  have hskip : SkipFacts T e.platform s (fun u => u) u0 ((preparedCellV T.toThrowableT (freshCell P1.m.cls kX) a u0 sen).withEntry W.cur) :=
    ⟨{ ci198 := ci198, i198 := i198, fBack := fB }, ⟨hk198, hg198, ha198, hsB⟩, by
      have h9 := fresh_default (c := P1.m.cls) tyB
      rw [htB] at h9
      simpa [preparedCellV, Cell.setSlot, Cell.withEntry, Array.getElem?_setIfInBounds, bC, bS, bP, bC.symm, bS.symm, bP.symm, defaultValue] using h9, fun _ _ => rfl⟩
  obtain ⟨tm, methC, cdC, kC, vm₁, hnC, -, -, -, -, -, -, -, hW₁, st1⟩ := Steps.initColdS (tb := p.tables) (e := e) (below := below) (s := s) (U := W) X.here hexec X.warmed hpl hown (t := Bundle.initS nsN) rfl rfl (by decide +kernel)
    (b (.methodLink own ic (Bundle.initS nsN)) (nsA_r (by simp))) (h (.instanceMethod (Bundle.initS nsN)) (nsA_p (by simp [Bundle.passSAtoms]))) (bytes := prog_24_method_4_code) (maxL := 2) (h (.code (Bundle.initS nsN) prog_24_method_4_code 2 none) (nsA_p (by simp [Bundle.passSAtoms])))
    (f := g) hg (a := a) (msg := msg) (rest := .ref a :: rest) hstack hd6
  cases Option.some.inj (hnC.symm.trans hP1m)
  have X₁ := X.noted hW₁
  have hlen1 : Ps.length = 1 := hlen
  obtain ⟨vm₂, X₂, st2⟩ := X₁.ctorMessageOffV hexec (g := { g with stack := .ref a :: rest }) hg hsize T L Z LZ M LM (P1 :: P2 :: Ps)
    (fun P hP => by
      rcases List.mem_cons.mp hP with rfl | hP
      · exact L1
      · rcases List.mem_cons.mp hP with rfl | hP
        · exact L2
        · exact hL P hP) ⟨hl1, hl2, hpass⟩ (u0 := u0) (sen := sen) (self := a) hmsg (cell := freshCell P1.m.cls kX) (cellS := cellS)
    hcell (fun _ => by simp) (by simp) rfl rfl hsel0 hselF hcellS hneS hknownS (by rw [hkeep _ (hnl _)]; exact hu0) (by rw [hkeep _ (hnl _)]; exact hsen)
    (Takes.of_laid hk hord tyC (by rw [Y.causeType]; rfl)) (Takes.of_laid hk hord tyS (by rw [Y.stackType]; exact fits_refV_array _ u0)) (Takes.of_laid hk hord tyP (by rw [Y.suppType]; exact fits_refV_object _ sen))
    (Takes.of_laid hk hord tyM (by rw [Y.msgType]; exact fits_refV_object _ ⟨msg, hmsg⟩)) Y.objLocals hskip htr [] hd6
    (by simp only [List.length_cons, hlen1]; omega) (by simp only [List.length_cons, hlen1]; exact hRlocals)
  obtain ⟨hwalk, hrun, hended, hWU, hsame⟩ := X₂.athrowLeaves hexec (g := { g with stack := .ref a :: rest, pc := g.pc + 3 }) hg hlocked hentered hout (a := a) (rest := rest) rfl hd9 hlocks
  have hlt : a < ((W.setVm vm₁).setVm vm₂).heap.size := (Array.getElem?_eq_some_iff.mp hcell).1
  have hU := heapAt_setCell_self (s := (W.setVm vm₁).setVm vm₂) (plainBareV T.toThrowableT (freshCell P1.m.cls kX) a u0 sen msg) hlt
  refine ⟨_, st1 _ (fun acts => ?_), hrun, hended, hWU, hsame.weaken (fun y hy hlt' => ?_) (Nat.le_refl _) (Nat.le_refl _), _, hU, hfound, rfl⟩
  · rw [doInvoke_state]
    exact st2 _ hwalk
  · rcases List.mem_append.mp hy with h1 | h1
    · exact h1
    · exfalso
      have hb : y.base = a := by
        simp only [List.mem_cons, List.not_mem_nil, or_false] at h1
        rcases h1 with rfl | rfl | rfl | rfl | rfl <;> rfl
      rw [hb] at hlt'
      exact Nat.not_lt.mpr hnew hlt'
end ZN
section ZN2
variable {p : Program} {l : Launch} {e : Env} {R : Room} {s : State} {m : MethodId} {args : Array Value} {below : List Frame} {meth : Method} {c : Code} {H : Heap} {locs : List Loc} {cells slots : Nat} {ls : Array Slot} {rest : List Value} {free : Addr → Prop} {Qc : Array Value → State → Outcome → State → Prop} {XC : String → State → State → Prop}
set_option maxHeartbeats 1000000 in
/-- throw new NoSuchElementException(text) -/
theorem vx_throwN {cc : ByteArray} {pc : Nat} (hexec : p.tables.exec = Jvm.exec) (hb : c.code = cc) (hl : l.stackTraces = false) {own text : String} {ik is ic mc ms sa : Nat} {A : Nat → Prop}
    (hown : s.vm.findClass own = some m.cls)
    (hk : (Cond.classLink own ik nsN).before args s = true) (hini : (Cond.initialized nsN).before args s = true) (hstr : vk_R own is text sa s) (hat : ∀ w ∈ nsB own ic, w.before args s = true)
    (hgood : ∀ w ∈ Cond.classLink own ik nsN :: Cond.initialized nsN :: nsB own ic, vx_ot w = true)
    (hU : vx_Zq Bundle.tN "UNASSIGNED_STACK" Bundle.steD A s s.heap) (hN : vx_Zq Bundle.tN "SUPPRESSED_SENTINEL" Bundle.listD A s s.heap) (hS : va_S A s.heap H locs) (hsize : ls.size = c.maxLocals)
    (d0 : decode cc pc = .ok (.new ik, 3)) (d3 : decode cc (pc + 3) = .ok (.dup, 1)) (d4 : decode cc (pc + 4) = .ok (.ldc_w is, 3)) (d7 : decode cc (pc + 7) = .ok (.invokespecial ic, 3)) (d10 : decode cc (pc + 10) = .ok (.athrow, 1))
    (hout : ∀ x ∈ c.exceptionTable.toList, covers x (pc + 10) = false)
    (hRframes : 5 < R.frames) (hRlocals : (rest.map fun v => v.category).sum + 82 ≤ R.locals) (hRcells : cells + 1 ≤ R.cells) (hRslots : slots + 6 ≤ R.slots) (hlocks : meth.locks = false)
    (hx : ∀ t : State, s.vm.Alike t.vm → t.heap.size = H.size + 1 → (∀ q : Nat, q < H.size → t.heap[q]? = H[q]?) → XC nsN s t)
    (hf : ∀ z ∈ locs, free z.base) (hc : cells + 1 ≤ mc) (hs : slots + 6 ≤ ms) :
    W p l e R s m args below meth c H locs cells slots (vx_MQ below Qc XC args s mc ms free) (F0 m pc ls rest) := by
  intro T hT X
  have htr : e.platform.stackTraces = false := (show e.platform.stackTraces = l.stackTraces by rw [X.admits.platform]).trans hl
  have Y := vx_rebase X (R' := { frames := R.frames, locals := R.locals, cells := 1, slots := 6 }) (Nat.le_refl _) (Nat.le_refl _) hRcells hRslots
  obtain ⟨s', hA⟩ : ∃ z, z = (T.setVm s.vm).setFrames (.invoking m args :: below) := ⟨_, rfl⟩
  rw [← hA] at Y
  have hvm : s'.vm = s.vm := by rw [hA]; rfl
  have hhp : s'.heap = H := by rw [hA]; exact hT
  have hW0 : s.WarmedH s'.vm := by rw [hvm]; exact State.WarmedH.refl s
  have hat' : ∀ w ∈ nsB own ic, w.before args s' = true := fun w hw => vx_ot_at hW0 hvm.symm (hgood w (List.mem_cons_of_mem _ (List.mem_cons_of_mem _ hw))) (hat w hw)
  have hk' : (Cond.classLink own ik nsN).before args s' = true := vx_ot_at hW0 hvm.symm (hgood _ List.mem_cons_self) hk
  have hini' : (Cond.initialized nsN).before args s' = true := vx_ot_at hW0 hvm.symm (hgood _ (List.mem_cons_of_mem _ List.mem_cons_self)) hini
  have hU' : vx_Zq Bundle.tN "UNASSIGNED_STACK" Bundle.steD A s' s'.heap := by rw [hhp]; exact vx_Zq.moved hW0.alike (hU.kept hS.2.1)
  have hN' : vx_Zq Bundle.tN "SUPPRESSED_SENTINEL" Bundle.listD A s' s'.heap := by rw [hhp]; exact vx_Zq.moved hW0.alike (hN.kept hS.2.1)
  have h : ∀ w ∈ nsA own ic, w.before args s' = true := vx_own hat' (vx_isRefq hU'.1) (vx_isRefq hN'.1) hU'.2.word hN'.2.word
  have hown' : s'.vm.findClass own = some m.cls := by rw [hvm]; exact hown
  have hins : (Cond.instantiable nsN 6).before args s' = true := h _ (nsA_r (by simp))
  obtain ⟨vm₁, cX, kX, hfX, hkX, -, -, X₁, st1⟩ := Y.newCold hexec (own := own) (C := nsN) (index := ik) (n := 6) hown' hk' hins hini'
    (g := F0 m pc ls rest) rfl (by rw [hb]; exact d0) (Nat.le_refl _) (Nat.le_refl _)
  generalize hT1 : (T.setVm vm₁).pushCell { cls := cX, slots := kX.instanceTypes.map defaultValue, vm := .none } = T1 at X₁ st1
  have hcat : (Value.ref T.heap.size).category = 1 := rfl
  have hcellA : T1.heap[T.heap.size]? = some (freshCell cX kX) := by rw [← hT1]; exact State.heap_pushCell_size _ _
  have d3' : decode c.code (pc + 3) = .ok (.dup, 1) := by rw [hb]; exact d3
  have d4' : decode c.code (pc + 4) = .ok (.ldc_w is, 3) := by rw [hb]; exact d4
  have hstr' : vk_R own is text sa s' := vk_R.warm hW0 hstr
  obtain ⟨U, hsteps, hrun, hend, hW, hsame, ce, hce, hcl0, hvm0⟩ := ns_ctor X₁ hexec htr (own := own) (ic := ic) hown' h (fun x hx => nomatch hx) hfX hkX hcellA (by rw [hhp, hT]; exact Nat.le_refl _) (msg := .ref sa) rfl
    (g := { method := m, pc := pc + 7, locals := ls, stack := .ref sa :: .ref T.heap.size :: .ref T.heap.size :: rest, locked := none }) rfl hsize rfl rfl (rest := rest) rfl
    (by rw [hb]; exact d7) (by rw [hb]; exact d10) hout hRframes (by simp only [List.map_cons, List.sum_cons, hcat]; omega) hlocks
  obtain ⟨f1, f2⟩ := vx_frame hsame
  rw [hhp] at f1 f2
  have f3 : U.heap.size = H.size + 1 := by
    have g1 : U.heap.size ≤ s'.heap.size + (0 + 1) := hsame.2.2.1
    have g2 : T.heap.size < U.heap.size := (Array.getElem?_eq_some_iff.mp hce).1
    rw [hhp] at g1
    rw [hT] at g2
    omega
  have hWs : s.WarmedH U.vm := State.WarmedH.trans hW0 hW
  have hcl : s.vm.findClass nsN = some ce.cls := by rw [← hvm]; exact hcl0
  have hall : s.sameButNew ({ U with vm := s.vm } : State) locs mc ms := by
    subst hA
    obtain ⟨e1, e2⟩ := hsame
    rw [State.setFrames_setFrames] at e1
    have h2 : (T.setVm s.vm).sameButNew ({ U with vm := s.vm } : State) [] (0 + 1) (0 + 6) := ⟨e1, e2⟩
    have h3 := X.same.trans h2
    rw [List.append_nil] at h3
    exact h3.mono hc hs
  refine ⟨U, ?_, .threw T.heap.size, hrun, hend, Or.inr ⟨T.heap.size, rfl, nsN, ce, locs, hx U hWs.alike f3 (fun q hq => f2 q hq (fun z hz => nomatch hz)), hce, hvm0, hcl, hWs, hall, hf⟩⟩
  refine st1 _ ?_
  show Steps p.tables e below (T1.setTop { method := m, pc := pc + 3, locals := ls, stack := .ref T.heap.size :: rest, locked := none }) _
  jvm_step X₁.here [X₁.here.top, hexec, d3', Value.category]
  exact X₁.ldcStringW hexec (own := own) (text := text) (index := is) (a := sa) hown' hstr'.1 hstr'.2
    (g := { method := m, pc := pc + 4, locals := ls, stack := .ref T.heap.size :: .ref T.heap.size :: rest, locked := none }) rfl d4' _ hsteps
end ZN2
section ZN3
variable {Γ : Ga} {D : DD} {B : Nat} {w : Bool} {cc : ByteArray} {nL fR lR Z : Nat} {Q : State → Prop} {σ : St} {pc : Nat} {lv : List (Nat × Value)} {st : List Value}
theorem x_throwN (X : Cx Γ "Pagerloom" cc nL D B (RM Γ B Z fR lR)) (Y : Xx Γ B) {text : String} {ik is ic : Nat} {ρ : Type} {out : ρ ⊕ Nat → Ou} {r : ρ ⊕ Nat} {σ' : St}
    (hk1 : Cond.classLink "Pagerloom" ik nsN ∈ WT) (hini : Cond.initialized nsN ∈ WT) (hat : ∀ x ∈ nsB "Pagerloom" ic, x ∈ lw_tbl ∧ okX x = true) (hgood : ∀ x ∈ Cond.classLink "Pagerloom" ik nsN :: Cond.initialized nsN :: nsB "Pagerloom" ic, vx_ot x = true) (hstr : Cond.stringRef "Pagerloom" is text ∈ lw_tbl)
    (ho : out (.inr 3) = .inr nsN) (hRf : 5 < fR) (hRl : (st.map fun v => v.category).sum + 82 ≤ lR)
    (d0 : decode cc pc = .ok (.new ik, 3)) (d3 : decode cc (pc + 3) = .ok (.dup, 1)) (d4 : decode cc (pc + 4) = .ok (.ldc_w is, 3)) (d7 : decode cc (pc + 7) = .ok (.invokespecial ic, 3)) (d10 : decode cc (pc + 10) = .ok (.athrow, 1))
    (hf : (if sz σ < Z then some ((.inr 3 : ρ ⊕ Nat), sz' σ (sz σ + 1)) else none) = some (r, σ')) : V Γ D B w nL (QX Γ D B w σ' (out r) (RZ Γ B Z) (12 * RZ Γ B Z)) (kz Γ B Z σ) (12 * kz Γ B Z σ) σ pc lv st :=
  ifo hf fun hlt hf H locs ls cs ss hP hS hl hk hn => by
    cases hf
    have hB : (Gs Γ).heap.size ≤ B + sz σ := by rw [← hP.1]; exact hS.1
    have e1 : kz Γ B Z σ + 1 ≤ RZ Γ B Z := by unfold kz RZ; omega
    have hR9 := X.2.2.2.2.2.2.2.2
    obtain ⟨sa, hsa⟩ := Y.2.1.2.2.1 is text hstr
    refine vx_throwN (A := fun q => B ≤ q) (sa := sa) X.1 X.2.1 Y.1 X.2.2.2.1 (X.w hk1) (X.w hini) hsa (fun x hx => okX_at X.2.2.2.2.1 Y.2.1 (hat x hx).1 (hat x hx).2) hgood Y.2.1.1 Y.2.1.2.1 hS (hl.1.trans X.2.2.1.symm) d0 d3 d4 d7 d10 (fun x hx => (Y.2.2 x hx).elim) (by show _ < (GR Γ).frames; rw [hR9]; exact hRf) (by show _ ≤ (GR Γ).locals; rw [hR9]; exact hRl) (by show cs + 1 ≤ (GR Γ).cells; rw [hR9]; show cs + 1 ≤ RZ Γ B Z; omega) (by show ss + 6 ≤ (GR Γ).slots; rw [hR9]; show ss + 6 ≤ 12 * RZ Γ B Z; omega) X.2.2.2.2.2.2.1 (fun t ht hz hq => ?_) (fun z hz => hS.2.2 z hz) (by omega) (by omega)
    have hz9 : H.size ≤ t.heap.size := by omega
    have hp := hP.more hz9 hq
    have e3 : t.heap.size - B = sz σ + 1 := by have := hP.1; omega
    rw [e3] at hp
    exact ⟨ho, hp, Nat.le_trans hS.1 hz9, fun q h1 h2 => (hq q (Nat.lt_of_lt_of_le h1 hS.1)).trans (hS.2.1 q h1 h2)⟩
end ZN3
