/-! rows for the law's own methods: calls of methods with handlers (vz_backW, vz_runSX: after vx_backW, vx_runSX, the room apart from the cost), handlers, the script -/
section VZH
section
variable {l : Launch} {R : Room} {p : Program} {e : Env} {below : List Frame} {s : State} {sargs : Array Value} {y : MethodName} {len W9 : Nat}
theorem vz_backW {ws : List Cond} {rm : Room} {Pc : Array Value → State → Prop} {Qc : Array Value → State → Outcome → State → Prop} {XC : String → State → State → Prop} {mc ms rc rs : Nat} {free : Addr → Prop} {bytes : ByteArray} {maxL : Nat} {ret : Option FieldType} {hh : List (Nat × Nat × Nat × Nat)}
    (hM : vx_Met l y ws rm Pc Qc XC mc ms free) (hblind : FrameBlind Pc) (hrc : rm.cells = rc) (hrs : rm.slots = rs)
    (hframes : rm.frames + 1 ≤ R.frames) (hlocals : W9 + (maxL + 11) + rm.locals ≤ R.locals)
    (hws : ∀ w ∈ ws, ∀ a' U, s.WarmedH U.vm → w.before a' U = true) (hcode : Cond.codeWith y bytes maxL ret hh ∈ ws) (hinit : ∀ a' U, s.WarmedH U.vm → (Cond.initialized y.cls).before a' U = true) :
    vx_Back l R p e below s sargs y len W9 (PreOf R rc rs Pc) (PostOf Qc mc ms free) (vx_Post XC mc ms free) := by
  intro m meth c A g ig mk a X hg hsize hdg hW hn hp
  have h1 : (headSpec ws rm).pre.before a A.U = true := atoms_intro fun w hw => hws w hw _ _ X.warmed
  have h2 : (Cond.codeWith y bytes maxL ret hh).before a A.U = true := hws _ hcode _ _ X.warmed
  have h3 : (Cond.initialized y.cls).before a A.U = true := hinit _ _ X.warmed
  have h4 : A.cells + (headSpec ws rm).room.cells ≤ R.cells := by rw [show (headSpec ws rm).room.cells = rc from hrc]; exact hp.1
  have h5 : A.slots + (headSpec ws rm).room.slots ≤ R.slots := by rw [show (headSpec ws rm).room.slots = rs from hrs]; exact hp.2.1
  have hPc : Pc a (A.U.calling g mk a) := hblind _ _ _ _ hp.2.2
  obtain ⟨U, Ls, c0, s0⟩ := A
  dsimp only [Pt.U, Pt.locs, Pt.cells, Pt.slots] at h1 h2 h3 h4 h5 X hn hPc ⊢
  obtain ⟨m9, methY, cY, hn9, hmY, hcY, -, hlY, -⟩ := Cond.codeWith_spec h2
  cases Option.some.inj (hn9.symm.trans hn)
  obtain ⟨kY, hkY, -⟩ := className_of_methodNamed hn
  have hinitY : kY.init = .initialized := Cond.initialized_spec (findClass_of_methodNamed hn) hkY h3
  have h : At U g.method c below := by rw [hg]; exact X.here
  have hlocals9 : W9 + (maxL + 11) + (headSpec ws rm).room.locals ≤ R.locals := hlocals
  have happ : (headSpec ws rm).appliesLoose y e.platform (U.calling g mk a) = true :=
    Spec.appliesLoose_calling (g := g) h hdg hn hkY hinitY
      (X.room_calling (g := g) (R' := (headSpec ws rm).room) hsize hmY hcY hframes (by rw [hlY]; omega) h4 h5) h1
  obtain ⟨mid, hmid⟩ := h.above
  have hfr : (U.setTop g).frames = (.java g :: mid) ++ below := by rw [State.frames_setTop' g h.top, hmid]; rfl
  obtain ⟨o, s₂, hsteps, -, hend, hq⟩ := Steps.callFree hM p X.admits X.cas X.clock (acts := []) hfr happ hPc trivial
  have hq' : vx_Q Qc XC mc ms free a (U.calling g mk a) o s₂ := hq
  rw [State.frames_setTop' g h.top] at hend
  obtain ⟨g₀, hg0⟩ := Option.isSome_iff_exists.mp h.top
  obtain ⟨r, hr⟩ := State.topJava?_eq_some.mp hg0
  have hr' : (({ U with heap := s₂.heap, slotsUsed := s₂.slotsUsed } : State).setVm s₂.vm).frames = .java g₀ :: r := hr
  rcases hq' with ⟨hqc, L, hfe, hL⟩ | ⟨q, rfl, E, ce, L, hx, hce, hcv, hcl, hW₂, hsm, hL⟩
  · obtain ⟨⟨v, rfl⟩, hW₂, e2, q2, q3, q4, q5, q6⟩ := id hfe
    have e3 : s₂ = ({ (U.calling g mk a).setFrames s₂.frames with heap := s₂.heap, slotsUsed := s₂.slotsUsed } : State).setVm s₂.vm := by
      have : s₂ = ({ s₂ with vm := (U.calling g mk a).vm } : State).setVm s₂.vm := rfl
      rw [e2] at this
      exact this
    obtain ⟨c₂, i₂, len₂, hc₂, hd₂, hf₂⟩ := hend
    have hW' : U.WarmedH s₂.vm := hW₂
    have hcc : c₂ = c := by
      have h1 : s₂.code? g.method = U.code? g.method := by
        rw [State.code?_eq, State.code?_eq, hW'.alike.method?]
      exact Option.some.inj (hc₂.symm.trans (h1.trans h.code))
    subst hcc
    have hlen : len₂ = len := by rw [hdg] at hd₂; cases hd₂; rfl
    subst hlen
    have hs₂ : s₂ = (({ U with heap := s₂.heap, slotsUsed := s₂.slotsUsed } : State).setVm s₂.vm).setTop { g with pc := g.pc + len₂, stack := v.toList ++ g.stack } := by
      refine e3.trans ?_
      rw [hf₂, State.calling_eq h.top, State.setFrames_setFrames, State.setTop_of_frames _ hr', hr]
      rfl
    have hsame : U.sameButNew ({ U with heap := s₂.heap, slotsUsed := s₂.slotsUsed } : State) L mc ms := by
      refine ⟨?_, q2, q3, q4, q5, q6⟩
      obtain ⟨t, ht, -⟩ := State.frames_cons hr
      show ({ U with heap := s₂.heap, slotsUsed := s₂.slotsUsed } : State) = { U.setFrames U.frames with heap := s₂.heap, slotsUsed := s₂.slotsUsed }
      rw [State.setFrames_self ht]
    subst hg
    refine Or.inl ⟨v, ⟨(({ U with heap := s₂.heap, slotsUsed := s₂.slotsUsed } : State).setVm s₂.vm), Ls ++ L, c0 + mc, s0 + ms⟩,
      ⟨X.admits, X.cas, X.clock, X.frames, X.room, X.hears, X.method, X.code, (X.here.setHeapUsed s₂.heap s₂.slotsUsed).setVm hW'.alike, X.tail, State.WarmedH.trans X.warmed hW', X.limits, X.bytes, X.same.trans (hsame.setVm s.vm)⟩,
      ⟨g, mk, s₂, L, rfl, rfl, hqc, rfl, hL, rfl, rfl⟩, ?_⟩
    show Steps p.tables e below _ ((({ U with heap := s₂.heap, slotsUsed := s₂.slotsUsed } : State).setVm s₂.vm).setTop { g with pc := g.pc + len₂, stack := v.toList ++ g.stack })
    rw [← hs₂]
    exact hsteps
  · obtain ⟨e2, q2, q3, q4, q5, q6⟩ := id hsm
    have e3 : s₂ = ({ (U.calling g mk a).setFrames s₂.frames with heap := s₂.heap, slotsUsed := s₂.slotsUsed } : State).setVm s₂.vm := by
      have : s₂ = ({ s₂ with vm := (U.calling g mk a).vm } : State).setVm s₂.vm := rfl
      rw [e2] at this
      exact this
    have hf₂ : s₂.frames = .throwing q :: .java g :: U.frames.tail := hend
    have hW' : U.WarmedH s₂.vm := hW₂
    have hs₂ : s₂ = ((({ U with heap := s₂.heap, slotsUsed := s₂.slotsUsed } : State).setVm s₂.vm).setTop g).pushFrame (.throwing q) := by
      refine e3.trans ?_
      rw [hf₂, State.calling_eq h.top, State.setFrames_setFrames, State.pushFrame, State.frames_setTop _ hr', State.setTop_of_frames _ hr', State.setFrames_setFrames, hr]
      rfl
    have hsame : U.sameButNew ({ U with heap := s₂.heap, slotsUsed := s₂.slotsUsed } : State) L mc ms := by
      refine ⟨?_, q2, q3, q4, q5, q6⟩
      obtain ⟨t, ht, -⟩ := State.frames_cons hr
      show ({ U with heap := s₂.heap, slotsUsed := s₂.slotsUsed } : State) = { U.setFrames U.frames with heap := s₂.heap, slotsUsed := s₂.slotsUsed }
      rw [State.setFrames_self ht]
    subst hg
    refine Or.inr ⟨q, ⟨(({ U with heap := s₂.heap, slotsUsed := s₂.slotsUsed } : State).setVm s₂.vm), Ls ++ L, c0 + mc, s0 + ms⟩,
      ⟨X.admits, X.cas, X.clock, X.frames, X.room, X.hears, X.method, X.code, (X.here.setHeapUsed s₂.heap s₂.slotsUsed).setVm hW'.alike, X.tail, State.WarmedH.trans X.warmed hW', X.limits, X.bytes, X.same.trans (hsame.setVm s.vm)⟩,
      ⟨g, mk, s₂, L, E, ce, rfl, rfl, hx, hce, hcv, hcl, rfl, hL, rfl, rfl⟩, ?_⟩
    show Steps p.tables e below _ (((({ U with heap := s₂.heap, slotsUsed := s₂.slotsUsed } : State).setVm s₂.vm).setTop g).pushFrame (.throwing q))
    rw [← hs₂]
    exact hsteps
end
section
variable {p : Program} {l : Launch} {e : Env} {R : Room} {s : State} {m : MethodId} {args : Array Value} {below : List Frame} {meth : Method} {c : Code} {T : State} {H : Heap} {locs : List Loc} {cells slots : Nat}
variable {y : MethodName} {bytes cc : ByteArray} {maxL nL mc ms n index : Nat} {ret : Option FieldType} {ws : List Cond} {rm : Room} {Pc : Array Value → State → Prop} {Qc : Array Value → State → Outcome → State → Prop} {XC : String → State → State → Prop} {free : Addr → Prop} {Ts : List Cond} {own C : String} {b : Addr} {As rest : List Value} {g : JFrame}
theorem vz_runSX {hh : List (Nat × Nat × Nat × Nat)} {rc rs : Nat} (S : CallFix p m c cc nL s args Ts own) (hM : vx_Met l y ws rm Pc Qc XC mc ms free) (cw : vx_CSW R s args own index y bytes maxL ret hh ws rm rc rs n) (hp : PreS s H Pc As)
    (hg : g.method = m) (hn : As.length = n) (hsize : g.locals.size = nL) (hstack : g.stack = As.reverse ++ rest) (hW : 2 * g.monitorRoom + (rest.map fun v => v.category).sum ≤ 8) (hdg : decode cc g.pc = .ok (.invokestatic index, 3)) (hf : cells + rc ≤ R.cells ∧ slots + rs ≤ R.slots) :
    vx_Run p l e R s m args below meth c H locs cells slots mc ms g rest (Qc As.toArray) XC free := by
  obtain ⟨⟨hrc, hrs, hfr, hlo, hws, hcw⟩, hcode, hini, hy, hlen, hl, hstt⟩ := cw
  have hK : vx_Back l R p e below s args y 3 8 (PreOf R rc rs Pc) (PostOf Qc mc ms free) (vx_Post XC mc ms free) := vz_backW (hh := hh) (bytes := bytes) (maxL := maxL) (ret := ret) hM hp.1 hrc hrs hfr hlo hws hcw (fun a' U hW => word_at hW (Or.inl (by first | rfl | simp [Cond.onTables, Cond.keeps, Cond.steady])) hini)
  obtain ⟨hx, hb, hml, ho, -⟩ := S
  intro T hT X
  rcases vx_callSX X hx (hh := hh) (bytes := bytes) (maxL := maxL) (ret := ret) ho hl hstt hini hcode hy hK hg (hsize.trans hml.symm) (argsL := As) (rest := rest) (fun sig h => hn.trans (hlen sig h)) hstack hW (by rw [hb]; exact hdg)
    (fun vm₁ hW₁ => ⟨hf.1, hf.2, hp.2 (T.setVm vm₁) hT hW₁⟩) with ⟨v, vm₁, ⟨U', l2, c2, s2⟩, hW₁, X', ⟨g', mk, t, L, e1, e2, hq, h1, hL, h2, h3⟩, st⟩ | ⟨q, vm₁, ⟨U', l2, c2, s2⟩, hW₁, X', ⟨g', mk, t, L, E, ce, e1, e2, hq, hce, hcv, hcl, h1, hL, h2, h3⟩, st⟩
  · dsimp only [Pt.U, Pt.locs, Pt.cells, Pt.slots] at X' e1 e2 h1 h2 h3 st
    subst h1; subst h2; subst h3
    exact Or.inl ⟨v, (T.setVm vm₁).calling g' mk As.toArray, t, U', L, hT, X', hL, e1, e2, hq, st⟩
  · dsimp only [Pt.U, Pt.locs, Pt.cells, Pt.slots] at X' e1 e2 h1 h2 h3 st hcl
    subst h1; subst h2; subst h3
    exact Or.inr ⟨q, (T.setVm vm₁).calling g' mk As.toArray, t, U', L, E, ce, hT, X', hL, e1, e2, hq, hce, hcv, vx_cls hW₁ hcl, st⟩
end
end VZH
/-- how many dear calls there were: a ghost in the state -/
def ct (σ : St) : Nat := (gR σ 9999).getD 0
def kb (σ σ1 : St) (b : Nat) : St := sR σ1 9999 (some (ct σ + b))
theorem ct_kb {σ σ1 : St} {b : Nat} : ct (kb σ σ1 b) = ct σ + b := rfl
theorem Pic.kb {D : DD} {B : Nat} {σ σ1 : St} {b : Nat} {H : Heap} (h : Pic D B true σ1 H) : Pic D B true (kb σ σ1 b) H := ⟨h.1, fun k e hk => h.2.1 k e hk, fun q c hq => h.2.2 q c hq⟩
/-- a call without births, if it can; else a dear one, of 64 cells -/
def qc {ρ : Type} (Z : Nat) (s : St) (f : Nat → Option (ρ × St)) : Option (ρ × St) := match f (sz s) with
  | some x => some (x.1, kb s x.2 0)
  | none => if ct s < Z then (f (sz s + 64)).bind fun x => some (x.1, kb s x.2 1) else none
/-- a dear call -/
def qd {ρ : Type} (Z : Nat) (s : St) (f : Nat → Option (ρ × St)) : Option (ρ × St) := if ct s < Z then (f (sz s + 64)).bind fun x => some (x.1, kb s x.2 1) else none
/-- the cost from c0 on -/
def kg (k0 c0 : Nat) (σ : St) : Nat := k0 + 64 * (ct σ - c0)
def ng (n0 c0 : Nat) (σ : St) : Nat := n0 + 768 * (ct σ - c0)
theorem kg_eq {k0 c0 : Nat} {σ σ1 : St} (h : ct σ1 = ct σ) : kg k0 c0 σ1 = kg k0 c0 σ := by unfold kg; rw [h]
theorem ng_eq {k0 c0 : Nat} {σ σ1 : St} (h : ct σ1 = ct σ) : ng k0 c0 σ1 = ng k0 c0 σ := by unfold ng; rw [h]
/-- the room is enough -/
def RLe (rm : Room) (Z k0 n0 c0 fR lR : Nat) : Prop := fR ≤ rm.frames ∧ lR ≤ rm.locals ∧ k0 + 64 * (Z - c0) ≤ rm.cells ∧ n0 + 768 * (Z - c0) ≤ rm.slots
abbrev RMg (Z c0 fr lo : Nat) : Room := { frames := fr, cells := 64 * (Z - c0), slots := 768 * (Z - c0), locals := lo }
theorem RLe.rf {Z c0 fR lR : Nat} : RLe (RMg Z c0 fR lR) Z 0 0 c0 fR lR := ⟨Nat.le_refl _, Nat.le_refl _, by show 0 + 64 * (Z - c0) ≤ 64 * (Z - c0); omega, by show 0 + 768 * (Z - c0) ≤ 768 * (Z - c0); omega⟩
def Hc (c0 Z : Nat) (σ : St) : Prop := c0 ≤ ct σ ∧ ct σ ≤ Z
theorem Hc.eq {c0 Z : Nat} {σ σ1 : St} (h : Hc c0 Z σ) (e : ct σ1 = ct σ) : Hc c0 Z σ1 := by unfold Hc; rw [e]; exact h
def Xy (Γ : Ga) (B : Nat) : Prop := Γ.2.1.stackTraces = false ∧ KE B (Gs Γ)
/-- the script: L ints xs at the cell b, below all that is the law's -/
def SX (Γ : Ga) (B b L : Nat) (xs : Nat → Int32) : Prop := va_X b L xs (Gs Γ) (Gs Γ).heap ∧ b < B ∧ L ≤ 260
/-- a contract that asks for the script too -/
def CXs (b L : Nat) (xs : Nat → Int32) (w : Bool) (y : MethodName) (cy : Cond) (fr lo rc rs : Nat) (as : Nat → List Value) (σ : St) (out : Nat → Ou) (σ' : St) (mc ms : Nat) : Prop :=
  ∀ (l : Launch) (D : DD) (B : Nat), l.stackTraces = false → vx_Met l y (cy :: WT) { frames := fr, cells := rc, slots := rs, locals := lo } (va_Pc (as B) (fun U => Pic D B w σ U.heap ∧ KX D B U ∧ va_X b L xs U U.heap ∧ b < B ∧ L ≤ 260)) (QXr D B w σ' (out B)) (QXx D B w σ' (out B)) mc ms (fun q => B ≤ q)
/-- a thrower's answer -/
def an {α : Type} (o : α ⊕ Nat) : Option α := match o with
  | .inl v => some v
  | .inr _ => none
/-- .. or what its handler says -/
def hnd {α β : Type} (o : α ⊕ Nat) (h : Nat → Option β) (k : α → Option β) : Option β := match o with
  | .inl v => k v
  | .inr e => h e
theorem anI {w : Bool} {y : MethodName} {cy : Cond} {fr lo rc rs mc ms : Nat} {as : Nat → List Value} {σ σ' : St} {o : Int32 ⊕ Nat} {v : Int32} (h : CX w y cy fr lo rc rs as σ (fun _ => ouI o) σ' mc ms) (ho : an o = some v) : CX w y cy fr lo rc rs as σ (fun _ => .inl (some (.int v))) σ' mc ms := by
  cases o with
  | inl x => cases ho; exact h
  | inr e => cases ho
theorem anL {w : Bool} {y : MethodName} {cy : Cond} {fr lo rc rs mc ms : Nat} {as : Nat → List Value} {σ σ' : St} {o : Int64 ⊕ Nat} {v : Int64} (h : CX w y cy fr lo rc rs as σ (fun _ => ouL o) σ' mc ms) (ho : an o = some v) : CX w y cy fr lo rc rs as σ (fun _ => .inl (some (.long v))) σ' mc ms := by
  cases o with
  | inl x => cases ho; exact h
  | inr e => cases ho
/-- what such a call costs -/
def CB9 (w : Bool) (y : MethodName) (cy : Cond) (fr lo Z : Nat) (as : Nat → List Value) (σ : St) (o : Ou) (σ2 : St) : Prop := ∃ σ1 b, σ2 = kb σ σ1 b ∧ ct σ + b ≤ Z ∧ CX w y cy fr lo (64 * b) (768 * b) as σ (fun _ => o) σ1 (64 * b) (768 * b)
theorem qd_run {ρ : Type} {f : Nat → Option (ρ × St)} {Z : Nat} {σ : St} {x : ρ × St} {w : Bool} {y : MethodName} {cy : Cond} {fr lo : Nat} {as : Nat → List Value} {ou : ρ → Ou} (hC : ∀ z x, f z = some x → CX w y cy fr lo (z - sz σ) (12 * (z - sz σ)) as σ (fun _ => ou x.1) x.2 (z - sz σ) (12 * (z - sz σ))) (hq : qd Z σ f = some x) : CB9 w y cy fr lo Z as σ (ou x.1) x.2 := by
  unfold qd at hq
  by_cases h : ct σ < Z
  · rw [if_pos h] at hq
    cases h2 : f (sz σ + 64) with
    | none => rw [h2] at hq; cases hq
    | some z =>
      rw [h2] at hq
      cases hq
      have h3 := hC _ _ h2
      rw [show sz σ + 64 - sz σ = 64 by omega] at h3
      exact ⟨z.2, 1, rfl, h, h3⟩
  · rw [if_neg h] at hq; cases hq
theorem qc_run {ρ : Type} {f : Nat → Option (ρ × St)} {Z : Nat} {σ : St} {x : ρ × St} {w : Bool} {y : MethodName} {cy : Cond} {fr lo : Nat} {as : Nat → List Value} {ou : ρ → Ou} (hz : ct σ ≤ Z) (hC : ∀ z x, f z = some x → CX w y cy fr lo (z - sz σ) (12 * (z - sz σ)) as σ (fun _ => ou x.1) x.2 (z - sz σ) (12 * (z - sz σ))) (hq : qc Z σ f = some x) : CB9 w y cy fr lo Z as σ (ou x.1) x.2 := by
  cases h1 : f (sz σ) with
  | some z =>
    unfold qc at hq
    rw [h1] at hq
    cases hq
    have h3 := hC _ _ h1
    rw [show sz σ - sz σ = 0 by omega] at h3
    exact ⟨z.2, 0, rfl, hz, h3⟩
  | none =>
    have e : qc Z σ f = qd Z σ f := by unfold qc; rw [h1]; rfl
    rw [e] at hq
    exact qd_run hC hq
theorem CX.ofL {w : Bool} {y : MethodName} {bytes : ByteArray} {maxL : Nat} {ret : Option FieldType} {fr lo Z : Nat} {as : Nat → List Value} {σ : St} {out : Nat → Ou} {σ' : St} (lv : Nat → List (Nat × Value))
    (hy : plainName y.cls = true) (hlv : ∀ B, lv_args 0 (as B) = lv B) (hln : ∀ B, (lg_sl (as B)).length ≤ maxL)
    (hV : ∀ (Γ : Ga) (D : DD) (B : Nat), Cx Γ y.cls bytes maxL D B (RMg Z (ct σ) fr lo) → Xy Γ B → (Gme Γ).sig.returnType = ret → V Γ D B w maxL (QX Γ D B w σ' (out B) (64 * (ct σ' - ct σ)) (768 * (ct σ' - ct σ))) (kg 0 (ct σ) σ) (ng 0 (ct σ) σ) σ 0 (lv B) []) :
    CX w y (Cond.code y bytes maxL ret) fr lo (64 * (Z - ct σ)) (768 * (Z - ct σ)) as σ out σ' (64 * (ct σ' - ct σ)) (768 * (ct σ' - ct σ)) :=
  CX.of lv hy hlv hln fun Γ D B X Y hr _ _ => V.mono (Nat.zero_le _) (Nat.zero_le _) (hV Γ D B X ⟨Y.1, Y.2.1⟩ hr)
theorem CX.ofH {w : Bool} {y : MethodName} {bytes : ByteArray} {maxL : Nat} {ret : Option FieldType} {hh : List (Nat × Nat × Nat × Nat)} {fr lo Z : Nat} {as : Nat → List Value} {σ : St} {out : Nat → Ou} {σ' : St} (lv : Nat → List (Nat × Value))
    (hy : plainName y.cls = true) (hlv : ∀ B, lv_args 0 (as B) = lv B) (hln : ∀ B, (lg_sl (as B)).length ≤ maxL)
    (hV : ∀ (Γ : Ga) (D : DD) (B : Nat), Cx Γ y.cls bytes maxL D B (RMg Z (ct σ) fr lo) → Xy Γ B → (Gc Γ).exceptionTable.toList = tableOf hh → (Gme Γ).sig.returnType = ret → V Γ D B w maxL (QX Γ D B w σ' (out B) (64 * (ct σ' - ct σ)) (768 * (ct σ' - ct σ))) (kg 0 (ct σ) σ) (ng 0 (ct σ) σ) σ 0 (lv B) []) :
    CX w y (Cond.codeWith y bytes maxL ret hh) fr lo (64 * (Z - ct σ)) (768 * (Z - ct σ)) as σ out σ' (64 * (ct σ' - ct σ)) (768 * (ct σ' - ct σ)) := by
  intro l D B hl0
  refine vx_ofWH (cc := bytes) (maxL := maxL) (ret := ret) (hh := hh) hy rfl ?_
  intro p e s m args below meth c s₁ Bd hml hv
  obtain ⟨rfl, hP, hK, hE⟩ := hv
  have hts := atoms_spec (ws := Cond.codeWith y bytes maxL ret hh :: WT) Bd.pre
  have hown : s.vm.findClass y.cls = some m.cls := findClass_of_methodNamed Bd.named
  have hl := lv_entry (as B) (n := maxL) (hln B)
  rw [lg_entry_eq]
  rw [hlv B] at hl
  have hB : B ≤ s.heap.size := by rw [hP.1]; omega
  exact V.mono (Nat.zero_le _) (Nat.zero_le _) (hV (p, l, e, _, s, m, _, below, meth, c) D B ⟨Bd.exec, Bd.bytes, hml, hown, fun x hx => hts x (List.mem_cons_of_mem _ hx), hK, Bd.notSynchronized, hB, rfl⟩ ⟨hl0, hE⟩ (vx_table (x := y) Bd (hts _ List.mem_cons_self)) Bd.returns) s.heap [] _ 0 0 hP va_S.rf hl (Nat.le_refl _) (Nat.le_refl _)
theorem blindXs {as : List Value} {D : DD} {B b L : Nat} {xs : Nat → Int32} {w : Bool} {σ : St} : FrameBlind (va_Pc as (fun U => Pic D B w σ U.heap ∧ KX D B U ∧ va_X b L xs U U.heap ∧ b < B ∧ L ≤ 260)) :=
  fun a U g mk h => ⟨h.1, h.2.1, ⟨KK.same (s := U) (U := U.calling g mk a) rfl h.2.2.1.1, KE.to (s := U) (U := U.calling g mk a) (locs := []) (State.WarmedH.refl U) h.2.2.1.2 va_S.rf⟩, va_X.moved (u := U) (U := U.calling g mk a) (Vm.Alike.refl U.vm) h.2.2.2.1, h.2.2.2.2⟩
theorem CXs.ofL {b L : Nat} {xs : Nat → Int32} {w : Bool} {y : MethodName} {bytes : ByteArray} {maxL : Nat} {ret : Option FieldType} {fr lo Z : Nat} {as : Nat → List Value} {σ : St} {out : Nat → Ou} {σ' : St} (lv : Nat → List (Nat × Value))
    (hy : plainName y.cls = true) (hlv : ∀ B, lv_args 0 (as B) = lv B) (hln : ∀ B, (lg_sl (as B)).length ≤ maxL)
    (hV : ∀ (Γ : Ga) (D : DD) (B : Nat), Cx Γ y.cls bytes maxL D B (RMg Z (ct σ) fr lo) → Xy Γ B → SX Γ B b L xs → (Gme Γ).sig.returnType = ret → V Γ D B w maxL (QX Γ D B w σ' (out B) (64 * (ct σ' - ct σ)) (768 * (ct σ' - ct σ))) (kg 0 (ct σ) σ) (ng 0 (ct σ) σ) σ 0 (lv B) []) :
    CXs b L xs w y (Cond.code y bytes maxL ret) fr lo (64 * (Z - ct σ)) (768 * (Z - ct σ)) as σ out σ' (64 * (ct σ' - ct σ)) (768 * (ct σ' - ct σ)) := by
  intro l D B hl0
  refine vx_ofW (cc := bytes) (maxL := maxL) (ret := ret) hy rfl ?_
  intro p e s m args below meth c s₁ Bd hml hno hv
  obtain ⟨rfl, hP, ⟨hK, hE⟩, hX9⟩ := hv
  have hts := atoms_spec (ws := Cond.code y bytes maxL ret :: WT) Bd.pre
  have hown : s.vm.findClass y.cls = some m.cls := findClass_of_methodNamed Bd.named
  have hl := lv_entry (as B) (n := maxL) (hln B)
  rw [lg_entry_eq]
  rw [hlv B] at hl
  have hB : B ≤ s.heap.size := by rw [hP.1]; omega
  exact V.mono (Nat.zero_le _) (Nat.zero_le _) (hV (p, l, e, _, s, m, _, below, meth, c) D B ⟨Bd.exec, Bd.bytes, hml, hown, fun x hx => hts x (List.mem_cons_of_mem _ hx), hK, Bd.notSynchronized, hB, rfl⟩ ⟨hl0, hE⟩ hX9 Bd.returns) s.heap [] _ 0 0 hP va_S.rf hl (Nat.le_refl _) (Nat.le_refl _)
section LR9
variable {Γ : Ga} {D : DD} {B : Nat} {w : Bool} {own : String} {cc : ByteArray} {nL Z k0 n0 c0 fR lR : Nat} {rm : Room} {Q : State → Prop} {k n : Nat} {σ : St} {pc : Nat} {lv : List (Nat × Value)} {st : List Value}
theorem r_ldc2 (X : Cx Γ own cc nL D B rm) {i : Nat} {v : Int64} (hc : Cond.constantLong own i v ∈ WT) (d : decode cc pc = .ok (.ldc2_w i, 3)) (kk : V Γ D B w nL Q k n σ (pc + 3) lv (.long v :: st)) : V Γ D B w nL Q k n σ pc lv st :=
  fun H locs ls cs ss hP hS hl hk hn => lv_ldc2 X.1 X.2.1 X.2.2.2.1 (X.w hc) d (kk H locs ls cs ss hP hS hl hk hn)
theorem s_aload_n (X : Cx Γ own cc nL D B rm) {i : Fin 4} {q : Nat} (d : decode cc pc = .ok (.aload_n i, 1)) (j : Nat) (hj : lv[j]? = some ((i : Nat), .ref q)) (kk : V Γ D B w nL Q k n σ (pc + 1) lv (.ref q :: st)) : V Γ D B w nL Q k n σ pc lv st :=
  fun H locs ls cs ss hP hS hl hk hn => lv_aload_n X.1 X.2.1 d rfl (lv_at hl j hj) (kk H locs ls cs ss hP hS hl hk hn)
theorem s_len (X : Cx Γ own cc nL D B rm) {b L : Nat} {xs : Nat → Int32} (S : SX Γ B b L xs) (d : decode cc pc = .ok (.arraylength, 1)) (kk : V Γ D B w nL Q k n σ (pc + 1) lv (.int (Int32.ofNat L) :: st)) : V Γ D B w nL Q k n σ pc lv (.ref b :: st) :=
  fun H locs ls cs ss hP hS hl hk hn => va_slen X.1 X.2.1 S.1 (Nat.lt_of_lt_of_le S.2.1 X.2.2.2.2.2.2.2.1) (A := fun q => B ≤ q) (Nat.not_le.mpr S.2.1) hS d (kk H locs ls cs ss hP hS hl hk hn)
theorem s_iald (X : Cx Γ own cc nL D B rm) {b L : Nat} {xs : Nat → Int32} (S : SX Γ B b L xs) {i : Int32} {α : Type} {G : Nat → Option α} {z : α} (d : decode cc pc = .ok (.iaload, 1)) (hf : ((ix L i).bind G) = some z) (kk : ∀ j, G j = some z → V Γ D B w nL Q k n σ (pc + 1) lv (.int (xs j) :: st)) : V Γ D B w nL Q k n σ pc lv (.int i :: .ref b :: st) :=
  bnd hf fun j hj hz H locs ls cs ss hP hS hl hk hn => by
    obtain ⟨h1, rfl, hlt⟩ := ix_some hj
    exact va_sld X.1 X.2.1 S.1 (Nat.lt_of_lt_of_le S.2.1 X.2.2.2.2.2.2.2.1) (A := fun q => B ≤ q) (Nat.not_le.mpr S.2.1) hS h1 d (kk _ hz H locs ls cs ss hP hS hl hk hn)
theorem y_iast (X : Cx Γ own cc nL D B rm) {a m : Nat} {f : Nat → Int32} {i x : Int32} {α : Type} {G : Nat → St → Option α} {z : α} (he : (cells D B w σ)[a]? = some (.inl (D.2 1, m, .inl f))) (hcs : ∀ j, cells D B w (sA σ a j x) = (cells D B w σ).set a (.inl (D.2 1, m, .inl (ups f j x)))) (d : decode cc pc = .ok (.iastore, 1)) (hf : ((ix m i).bind fun j => lt (sA σ a j x) (G j)) = some z) (kk : ∀ j s1, ct s1 = ct σ → G j s1 = some z → V Γ D B w nL Q (kg k0 c0 s1) (ng n0 c0 s1) s1 (pc + 1) lv st) : V Γ D B w nL Q (kg k0 c0 σ) (ng n0 c0 σ) σ pc lv (.int x :: .int i :: .ref (B + a) :: st) :=
  b_iast X (G := fun j s1 => if ct s1 = ct σ then G j s1 else none) he hcs d (by rw [← hf]; exact congrArg ((ix m i).bind ·) (funext fun j => if_pos rfl)) (fun j s1 h => ifo h fun e h2 => by rw [← kg_eq (k0 := k0) (c0 := c0) e, ← ng_eq (k0 := n0) (c0 := c0) e]; exact kk j s1 e h2)
theorem y_callV (X : Cx Γ own cc nL D B rm) (M : RLe rm Z k0 n0 c0 fR lR) (hc : Hc c0 Z σ) {idx maxL fr lo a : Nat} {C : String} {y : MethodName} {bytes : ByteArray} {ret : Option FieldType} {as : Nat → List Value} {v : Nat → Option Value} {σ1 : St} {As : List Value} {α : Type} {G : St → Option α} {z : α} (hC : CC true y (Cond.code y bytes maxL ret) fr lo as σ v σ1 0 0) (has : as B = .ref (B + a) :: As)
    (hml : Cond.methodLink own idx y ∈ WT) (hin : Cond.instanceMethod y ∈ WT) (hse : Cond.selects C y y ∈ WT) (hini : Cond.initialized C ∈ WT) (hco : Cond.code y bytes maxL ret ∈ WT) (hd : y.cls = C ∧ y.cls ≠ "java/lang/invoke/MethodHandle" ∧ y.cls ≠ "java/lang/invoke/VarHandle" ∧ (parseMethodDescriptor y.desc).map (fun d => d.parameters.length) = some As.length) (hrc : Rc D B true σ C a)
    (hR : fr + 1 ≤ fR ∧ 8 + (maxL + 11) + lo ≤ lR) (hrm : (st.map fun v => v.category).sum ≤ 8) (d : decode cc pc = .ok (.invokevirtual idx, 3)) {pre : List Value} (hpre : pre = As.reverse ++ .ref (B + a) :: st) (hf : lt (kb σ σ1 0) G = some z)
    (kk : ∀ s2, Hc c0 Z s2 → G s2 = some z → V Γ D B true nL Q (kg k0 c0 s2) (ng n0 c0 s2) s2 (pc + 3) lv ((v B).toList ++ st)) : V Γ D B true nL Q (kg k0 c0 σ) (ng n0 c0 σ) σ pc lv pre := by
  subst hpre
  intro H locs ls cs ss hP hS hl hk hn
  have hR9 := X.2.2.2.2.2.2.2.2
  obtain ⟨hc1, hc2⟩ := id hc
  have hk9 := hk
  have hn9 := hn
  unfold kg at hk9
  unfold ng at hn9
  obtain ⟨ci, N, T, fs, hcl, hat⟩ := hrc
  refine w_callz X hP hl hS (va_runV (As := As) (rest := st) ⟨X.1, X.2.1, X.2.2.1, X.2.2.2.1, X.2.2.2.2.1⟩ (hC Γ.2.1 D B) (cwV As.length X.2.2.2.2.1 (WT_cons hml (WT_cons hin (WT_cons hse (WT_cons hini (WT_call hco))))) rfl rfl rfl hd ⟨by show fr + 1 ≤ (GR Γ).frames; rw [hR9]; exact Nat.le_trans hR.1 M.1, by show 8 + (maxL + 11) + lo ≤ (GR Γ).locals; rw [hR9]; exact Nat.le_trans hR.2 M.2.1⟩) ⟨blind, recv X.2.2.2.2.2.1.1 hcl (hat H hP), fun U hU hW => ⟨by rw [has], by rw [hU]; exact hP, KK.moved hW X.2.2.2.2.2.1⟩⟩ rfl rfl hl.1 rfl (lv_room hrm) d ⟨by show cs + 0 ≤ (GR Γ).cells; rw [hR9]; exact Nat.le_trans (by omega) M.2.2.1, by show ss + 0 ≤ (GR Γ).slots; rw [hR9]; exact Nat.le_trans (by omega) M.2.2.2⟩) hk hn (fun hsz => ?_)
  intro H1 locs1 ls1 cs1 ss1 hP1 hS1 hl1 hk1 hn1
  exact kk (kb σ σ1 0) (hc.eq rfl) hf H1 locs1 ls1 cs1 ss1 hP1.kb hS1 hl1 hk1 hn1
theorem y_callVv (X : Cx Γ own cc nL D B rm) (M : RLe rm Z k0 n0 c0 fR lR) (hc : Hc c0 Z σ) {idx maxL fr lo a : Nat} {C : String} {y : MethodName} {bytes : ByteArray} {ret : Option FieldType} {as : Nat → List Value} {σ1 : St} {As : List Value} {α : Type} {G : St → Option α} {z : α} (hC : CC true y (Cond.code y bytes maxL ret) fr lo as σ (fun _ => none) σ1 0 0) (has : as B = .ref (B + a) :: As)
    (hml : Cond.methodLink own idx y ∈ WT) (hin : Cond.instanceMethod y ∈ WT) (hse : Cond.selects C y y ∈ WT) (hini : Cond.initialized C ∈ WT) (hco : Cond.code y bytes maxL ret ∈ WT) (hd : y.cls = C ∧ y.cls ≠ "java/lang/invoke/MethodHandle" ∧ y.cls ≠ "java/lang/invoke/VarHandle" ∧ (parseMethodDescriptor y.desc).map (fun d => d.parameters.length) = some As.length) (hrc : Rc D B true σ C a)
    (hR : fr + 1 ≤ fR ∧ 8 + (maxL + 11) + lo ≤ lR) (hrm : (st.map fun v => v.category).sum ≤ 8) (d : decode cc pc = .ok (.invokevirtual idx, 3)) {pre : List Value} (hpre : pre = As.reverse ++ .ref (B + a) :: st) (hf : lt (kb σ σ1 0) G = some z)
    (kk : ∀ s2, Hc c0 Z s2 → G s2 = some z → V Γ D B true nL Q (kg k0 c0 s2) (ng n0 c0 s2) s2 (pc + 3) lv st) : V Γ D B true nL Q (kg k0 c0 σ) (ng n0 c0 σ) σ pc lv pre := y_callV (v := fun _ => none) X M hc hC has hml hin hse hini hco hd hrc hR hrm d hpre hf kk
theorem y_callVi (X : Cx Γ own cc nL D B rm) (M : RLe rm Z k0 n0 c0 fR lR) (hc : Hc c0 Z σ) {idx maxL fr lo a : Nat} {C : String} {y : MethodName} {bytes : ByteArray} {ret : Option FieldType} {as : Nat → List Value} {r : Int32} {σ1 : St} {As : List Value} {α : Type} {G : St → Option α} {z : α} (hC : CC true y (Cond.code y bytes maxL ret) fr lo as σ (fun _ => (some (.int r))) σ1 0 0) (has : as B = .ref (B + a) :: As)
    (hml : Cond.methodLink own idx y ∈ WT) (hin : Cond.instanceMethod y ∈ WT) (hse : Cond.selects C y y ∈ WT) (hini : Cond.initialized C ∈ WT) (hco : Cond.code y bytes maxL ret ∈ WT) (hd : y.cls = C ∧ y.cls ≠ "java/lang/invoke/MethodHandle" ∧ y.cls ≠ "java/lang/invoke/VarHandle" ∧ (parseMethodDescriptor y.desc).map (fun d => d.parameters.length) = some As.length) (hrc : Rc D B true σ C a)
    (hR : fr + 1 ≤ fR ∧ 8 + (maxL + 11) + lo ≤ lR) (hrm : (st.map fun v => v.category).sum ≤ 8) (d : decode cc pc = .ok (.invokevirtual idx, 3)) {pre : List Value} (hpre : pre = As.reverse ++ .ref (B + a) :: st) (hf : lt (kb σ σ1 0) G = some z)
    (kk : ∀ s2, Hc c0 Z s2 → G s2 = some z → V Γ D B true nL Q (kg k0 c0 s2) (ng n0 c0 s2) s2 (pc + 3) lv (.int r :: st)) : V Γ D B true nL Q (kg k0 c0 σ) (ng n0 c0 σ) σ pc lv pre := y_callV (v := fun _ => (some (.int r))) X M hc hC has hml hin hse hini hco hd hrc hR hrm d hpre hf kk
theorem y_callVl (X : Cx Γ own cc nL D B rm) (M : RLe rm Z k0 n0 c0 fR lR) (hc : Hc c0 Z σ) {idx maxL fr lo a : Nat} {C : String} {y : MethodName} {bytes : ByteArray} {ret : Option FieldType} {as : Nat → List Value} {r : Int64} {σ1 : St} {As : List Value} {α : Type} {G : St → Option α} {z : α} (hC : CC true y (Cond.code y bytes maxL ret) fr lo as σ (fun _ => (some (.long r))) σ1 0 0) (has : as B = .ref (B + a) :: As)
    (hml : Cond.methodLink own idx y ∈ WT) (hin : Cond.instanceMethod y ∈ WT) (hse : Cond.selects C y y ∈ WT) (hini : Cond.initialized C ∈ WT) (hco : Cond.code y bytes maxL ret ∈ WT) (hd : y.cls = C ∧ y.cls ≠ "java/lang/invoke/MethodHandle" ∧ y.cls ≠ "java/lang/invoke/VarHandle" ∧ (parseMethodDescriptor y.desc).map (fun d => d.parameters.length) = some As.length) (hrc : Rc D B true σ C a)
    (hR : fr + 1 ≤ fR ∧ 8 + (maxL + 11) + lo ≤ lR) (hrm : (st.map fun v => v.category).sum ≤ 8) (d : decode cc pc = .ok (.invokevirtual idx, 3)) {pre : List Value} (hpre : pre = As.reverse ++ .ref (B + a) :: st) (hf : lt (kb σ σ1 0) G = some z)
    (kk : ∀ s2, Hc c0 Z s2 → G s2 = some z → V Γ D B true nL Q (kg k0 c0 s2) (ng n0 c0 s2) s2 (pc + 3) lv (.long r :: st)) : V Γ D B true nL Q (kg k0 c0 σ) (ng n0 c0 σ) σ pc lv pre := y_callV (v := fun _ => (some (.long r))) X M hc hC has hml hin hse hini hco hd hrc hR hrm d hpre hf kk
theorem y_callS (X : Cx Γ own cc nL D B rm) (M : RLe rm Z k0 n0 c0 fR lR) (hc : Hc c0 Z σ) {idx maxL fr lo : Nat} {y : MethodName} {bytes : ByteArray} {ret : Option FieldType} {as : Nat → List Value} {v : Nat → Option Value} {σ1 : St} {As : List Value} {α : Type} {G : St → Option α} {z : α} (hC : CC true y (Cond.code y bytes maxL ret) fr lo as σ v σ1 0 0) (has : as B = As)
    (hml : Cond.methodLink own idx y ∈ WT) (hstt : Cond.static y ∈ WT) (hini : Cond.initialized y.cls ∈ WT) (hco : Cond.code y bytes maxL ret ∈ WT) (hd : y.cls ≠ "java/lang/invoke/MethodHandle" ∧ y.cls ≠ "java/lang/invoke/VarHandle" ∧ (parseMethodDescriptor y.desc).map (fun d => d.parameters.length) = some As.length)
    (hR : fr + 1 ≤ fR ∧ 8 + (maxL + 11) + lo ≤ lR) (hrm : (st.map fun v => v.category).sum ≤ 8) (d : decode cc pc = .ok (.invokestatic idx, 3)) {pre : List Value} (hpre : pre = As.reverse ++ st) (hf : lt (kb σ σ1 0) G = some z)
    (kk : ∀ s2, Hc c0 Z s2 → G s2 = some z → V Γ D B true nL Q (kg k0 c0 s2) (ng n0 c0 s2) s2 (pc + 3) lv ((v B).toList ++ st)) : V Γ D B true nL Q (kg k0 c0 σ) (ng n0 c0 σ) σ pc lv pre := by
  subst hpre
  intro H locs ls cs ss hP hS hl hk hn
  have hR9 := X.2.2.2.2.2.2.2.2
  obtain ⟨hc1, hc2⟩ := id hc
  have hk9 := hk
  have hn9 := hn
  unfold kg at hk9
  unfold ng at hn9
  refine w_callz X hP hl hS (va_runS (As := As) (rest := st) ⟨X.1, X.2.1, X.2.2.1, X.2.2.2.1, X.2.2.2.2.1⟩ (hC Γ.2.1 D B) (va_cwS As.length X.2.2.2.2.1 (WT_cons hml (WT_cons hstt (WT_cons hini (WT_call hco)))) rfl rfl rfl hd ⟨by show fr + 1 ≤ (GR Γ).frames; rw [hR9]; exact Nat.le_trans hR.1 M.1, by show 8 + (maxL + 11) + lo ≤ (GR Γ).locals; rw [hR9]; exact Nat.le_trans hR.2 M.2.1⟩) ⟨blind, fun U hU hW => ⟨by rw [has], by rw [hU]; exact hP, KK.moved hW X.2.2.2.2.2.1⟩⟩ rfl rfl hl.1 rfl (lv_room hrm) d ⟨by show cs + 0 ≤ (GR Γ).cells; rw [hR9]; exact Nat.le_trans (by omega) M.2.2.1, by show ss + 0 ≤ (GR Γ).slots; rw [hR9]; exact Nat.le_trans (by omega) M.2.2.2⟩) hk hn (fun hsz => ?_)
  intro H1 locs1 ls1 cs1 ss1 hP1 hS1 hl1 hk1 hn1
  exact kk (kb σ σ1 0) (hc.eq rfl) hf H1 locs1 ls1 cs1 ss1 hP1.kb hS1 hl1 hk1 hn1
theorem y_callSv (X : Cx Γ own cc nL D B rm) (M : RLe rm Z k0 n0 c0 fR lR) (hc : Hc c0 Z σ) {idx maxL fr lo : Nat} {y : MethodName} {bytes : ByteArray} {ret : Option FieldType} {as : Nat → List Value} {σ1 : St} {As : List Value} {α : Type} {G : St → Option α} {z : α} (hC : CC true y (Cond.code y bytes maxL ret) fr lo as σ (fun _ => none) σ1 0 0) (has : as B = As)
    (hml : Cond.methodLink own idx y ∈ WT) (hstt : Cond.static y ∈ WT) (hini : Cond.initialized y.cls ∈ WT) (hco : Cond.code y bytes maxL ret ∈ WT) (hd : y.cls ≠ "java/lang/invoke/MethodHandle" ∧ y.cls ≠ "java/lang/invoke/VarHandle" ∧ (parseMethodDescriptor y.desc).map (fun d => d.parameters.length) = some As.length)
    (hR : fr + 1 ≤ fR ∧ 8 + (maxL + 11) + lo ≤ lR) (hrm : (st.map fun v => v.category).sum ≤ 8) (d : decode cc pc = .ok (.invokestatic idx, 3)) {pre : List Value} (hpre : pre = As.reverse ++ st) (hf : lt (kb σ σ1 0) G = some z)
    (kk : ∀ s2, Hc c0 Z s2 → G s2 = some z → V Γ D B true nL Q (kg k0 c0 s2) (ng n0 c0 s2) s2 (pc + 3) lv st) : V Γ D B true nL Q (kg k0 c0 σ) (ng n0 c0 σ) σ pc lv pre := y_callS (v := fun _ => none) X M hc hC has hml hstt hini hco hd hR hrm d hpre hf kk
theorem y_callSi (X : Cx Γ own cc nL D B rm) (M : RLe rm Z k0 n0 c0 fR lR) (hc : Hc c0 Z σ) {idx maxL fr lo : Nat} {y : MethodName} {bytes : ByteArray} {ret : Option FieldType} {as : Nat → List Value} {r : Int32} {σ1 : St} {As : List Value} {α : Type} {G : St → Option α} {z : α} (hC : CC true y (Cond.code y bytes maxL ret) fr lo as σ (fun _ => (some (.int r))) σ1 0 0) (has : as B = As)
    (hml : Cond.methodLink own idx y ∈ WT) (hstt : Cond.static y ∈ WT) (hini : Cond.initialized y.cls ∈ WT) (hco : Cond.code y bytes maxL ret ∈ WT) (hd : y.cls ≠ "java/lang/invoke/MethodHandle" ∧ y.cls ≠ "java/lang/invoke/VarHandle" ∧ (parseMethodDescriptor y.desc).map (fun d => d.parameters.length) = some As.length)
    (hR : fr + 1 ≤ fR ∧ 8 + (maxL + 11) + lo ≤ lR) (hrm : (st.map fun v => v.category).sum ≤ 8) (d : decode cc pc = .ok (.invokestatic idx, 3)) {pre : List Value} (hpre : pre = As.reverse ++ st) (hf : lt (kb σ σ1 0) G = some z)
    (kk : ∀ s2, Hc c0 Z s2 → G s2 = some z → V Γ D B true nL Q (kg k0 c0 s2) (ng n0 c0 s2) s2 (pc + 3) lv (.int r :: st)) : V Γ D B true nL Q (kg k0 c0 σ) (ng n0 c0 σ) σ pc lv pre := y_callS (v := fun _ => (some (.int r))) X M hc hC has hml hstt hini hco hd hR hrm d hpre hf kk
theorem y_callSl (X : Cx Γ own cc nL D B rm) (M : RLe rm Z k0 n0 c0 fR lR) (hc : Hc c0 Z σ) {idx maxL fr lo : Nat} {y : MethodName} {bytes : ByteArray} {ret : Option FieldType} {as : Nat → List Value} {r : Int64} {σ1 : St} {As : List Value} {α : Type} {G : St → Option α} {z : α} (hC : CC true y (Cond.code y bytes maxL ret) fr lo as σ (fun _ => (some (.long r))) σ1 0 0) (has : as B = As)
    (hml : Cond.methodLink own idx y ∈ WT) (hstt : Cond.static y ∈ WT) (hini : Cond.initialized y.cls ∈ WT) (hco : Cond.code y bytes maxL ret ∈ WT) (hd : y.cls ≠ "java/lang/invoke/MethodHandle" ∧ y.cls ≠ "java/lang/invoke/VarHandle" ∧ (parseMethodDescriptor y.desc).map (fun d => d.parameters.length) = some As.length)
    (hR : fr + 1 ≤ fR ∧ 8 + (maxL + 11) + lo ≤ lR) (hrm : (st.map fun v => v.category).sum ≤ 8) (d : decode cc pc = .ok (.invokestatic idx, 3)) {pre : List Value} (hpre : pre = As.reverse ++ st) (hf : lt (kb σ σ1 0) G = some z)
    (kk : ∀ s2, Hc c0 Z s2 → G s2 = some z → V Γ D B true nL Q (kg k0 c0 s2) (ng n0 c0 s2) s2 (pc + 3) lv (.long r :: st)) : V Γ D B true nL Q (kg k0 c0 σ) (ng n0 c0 σ) σ pc lv pre := y_callS (v := fun _ => (some (.long r))) X M hc hC has hml hstt hini hco hd hR hrm d hpre hf kk
theorem y_callXS (X : Cx Γ own cc nL D B rm) (M : RLe rm Z k0 n0 c0 fR lR) (Y : Xy Γ B) (hc : Hc c0 Z σ) {idx maxL fr lo : Nat} {y : MethodName} {bytes : ByteArray} {ret : Option FieldType} {as : Nat → List Value} {v : Nat → Option Value} {σ1 : St} {As : List Value} (hC : CX true y (Cond.code y bytes maxL ret) fr lo (64 * (Z - ct σ)) (768 * (Z - ct σ)) as σ (fun B => .inl (v B)) σ1 (64 * (ct σ1 - ct σ)) (768 * (ct σ1 - ct σ))) (has : as B = As)
    (hml : Cond.methodLink own idx y ∈ WT) (hstt : Cond.static y ∈ WT) (hini : Cond.initialized y.cls ∈ WT) (hco : Cond.code y bytes maxL ret ∈ WT) (hd : y.cls ≠ "java/lang/invoke/MethodHandle" ∧ y.cls ≠ "java/lang/invoke/VarHandle" ∧ (parseMethodDescriptor y.desc).map (fun d => d.parameters.length) = some As.length)
    (hR : fr + 1 ≤ fR ∧ 8 + (maxL + 11) + lo ≤ lR) (hz : ct σ ≤ ct σ1 ∧ ct σ1 ≤ Z) (hrm : (st.map fun v => v.category).sum ≤ 8) (d : decode cc pc = .ok (.invokestatic idx, 3)) {pre : List Value} (hpre : pre = As.reverse ++ st)
    (kk : Hc c0 Z σ1 → V Γ D B true nL Q (kg k0 c0 σ1) (ng n0 c0 σ1) σ1 (pc + 3) lv ((v B).toList ++ st)) : V Γ D B true nL Q (kg k0 c0 σ) (ng n0 c0 σ) σ pc lv pre := by
  subst hpre
  exact fun H locs ls cs ss hP hS hl hk hn => by
    have hR9 := X.2.2.2.2.2.2.2.2
    obtain ⟨hc1, hc2⟩ := hc
    unfold kg at hk
    unfold ng at hn
    refine w_callX hP hS (vz_runS (rc := 64 * (Z - ct σ)) (rs := 768 * (Z - ct σ)) (As := As) (rest := st) ⟨X.1, X.2.1, X.2.2.1, X.2.2.2.1, X.2.2.2.2.1⟩ (hC Γ.2.1 D B Y.1) (va_cwS As.length X.2.2.2.2.1 (WT_cons hml (WT_cons hstt (WT_cons hini (WT_call hco)))) rfl rfl rfl hd ⟨by show fr + 1 ≤ (GR Γ).frames; rw [hR9]; exact Nat.le_trans hR.1 M.1, by show 8 + (maxL + 11) + lo ≤ (GR Γ).locals; rw [hR9]; exact Nat.le_trans hR.2 M.2.1⟩) ⟨blindX, fun U hU hW => ⟨by rw [has], by rw [hU]; exact hP, KK.moved hW X.2.2.2.2.2.1, KE.to hW Y.2 (by rw [hU]; exact hS)⟩⟩ rfl rfl hl.1 rfl (lv_room hrm) d ⟨by show cs + 64 * (Z - ct σ) ≤ (GR Γ).cells; rw [hR9]; exact Nat.le_trans (by omega) M.2.2.1, by show ss + 768 * (Z - ct σ) ≤ (GR Γ).slots; rw [hR9]; exact Nat.le_trans (by omega) M.2.2.2⟩) (fun v9 hv H1 locs1 hsz hP1 hS1 => ?_) (fun E hE => by cases hE)
    cases hv
    exact kk ⟨by omega, hz.2⟩ H1 locs1 ls _ _ hP1 hS1 hl (by unfold kg; omega) (by unfold ng; omega)
theorem y_callXSv (X : Cx Γ own cc nL D B rm) (M : RLe rm Z k0 n0 c0 fR lR) (Y : Xy Γ B) (hc : Hc c0 Z σ) {idx maxL fr lo : Nat} {y : MethodName} {bytes : ByteArray} {ret : Option FieldType} {as : Nat → List Value} {σ1 : St} {As : List Value} (hC : CX true y (Cond.code y bytes maxL ret) fr lo (64 * (Z - ct σ)) (768 * (Z - ct σ)) as σ (fun _ => .inl none) σ1 (64 * (ct σ1 - ct σ)) (768 * (ct σ1 - ct σ))) (has : as B = As)
    (hml : Cond.methodLink own idx y ∈ WT) (hstt : Cond.static y ∈ WT) (hini : Cond.initialized y.cls ∈ WT) (hco : Cond.code y bytes maxL ret ∈ WT) (hd : y.cls ≠ "java/lang/invoke/MethodHandle" ∧ y.cls ≠ "java/lang/invoke/VarHandle" ∧ (parseMethodDescriptor y.desc).map (fun d => d.parameters.length) = some As.length)
    (hR : fr + 1 ≤ fR ∧ 8 + (maxL + 11) + lo ≤ lR) (hz : ct σ ≤ ct σ1 ∧ ct σ1 ≤ Z) (hrm : (st.map fun v => v.category).sum ≤ 8) (d : decode cc pc = .ok (.invokestatic idx, 3)) {pre : List Value} (hpre : pre = As.reverse ++ st)
    (kk : Hc c0 Z σ1 → V Γ D B true nL Q (kg k0 c0 σ1) (ng n0 c0 σ1) σ1 (pc + 3) lv st) : V Γ D B true nL Q (kg k0 c0 σ) (ng n0 c0 σ) σ pc lv pre := y_callXS (v := fun _ => none) X M Y hc hC has hml hstt hini hco hd hR hz hrm d hpre kk
theorem y_callXSi (X : Cx Γ own cc nL D B rm) (M : RLe rm Z k0 n0 c0 fR lR) (Y : Xy Γ B) (hc : Hc c0 Z σ) {idx maxL fr lo : Nat} {y : MethodName} {bytes : ByteArray} {ret : Option FieldType} {as : Nat → List Value} {r : Int32} {σ1 : St} {As : List Value} (hC : CX true y (Cond.code y bytes maxL ret) fr lo (64 * (Z - ct σ)) (768 * (Z - ct σ)) as σ (fun _ => .inl (some (.int r))) σ1 (64 * (ct σ1 - ct σ)) (768 * (ct σ1 - ct σ))) (has : as B = As)
    (hml : Cond.methodLink own idx y ∈ WT) (hstt : Cond.static y ∈ WT) (hini : Cond.initialized y.cls ∈ WT) (hco : Cond.code y bytes maxL ret ∈ WT) (hd : y.cls ≠ "java/lang/invoke/MethodHandle" ∧ y.cls ≠ "java/lang/invoke/VarHandle" ∧ (parseMethodDescriptor y.desc).map (fun d => d.parameters.length) = some As.length)
    (hR : fr + 1 ≤ fR ∧ 8 + (maxL + 11) + lo ≤ lR) (hz : ct σ ≤ ct σ1 ∧ ct σ1 ≤ Z) (hrm : (st.map fun v => v.category).sum ≤ 8) (d : decode cc pc = .ok (.invokestatic idx, 3)) {pre : List Value} (hpre : pre = As.reverse ++ st)
    (kk : Hc c0 Z σ1 → V Γ D B true nL Q (kg k0 c0 σ1) (ng n0 c0 σ1) σ1 (pc + 3) lv (.int r :: st)) : V Γ D B true nL Q (kg k0 c0 σ) (ng n0 c0 σ) σ pc lv pre := y_callXS (v := fun _ => (some (.int r))) X M Y hc hC has hml hstt hini hco hd hR hz hrm d hpre kk
theorem y_callXSl (X : Cx Γ own cc nL D B rm) (M : RLe rm Z k0 n0 c0 fR lR) (Y : Xy Γ B) (hc : Hc c0 Z σ) {idx maxL fr lo : Nat} {y : MethodName} {bytes : ByteArray} {ret : Option FieldType} {as : Nat → List Value} {r : Int64} {σ1 : St} {As : List Value} (hC : CX true y (Cond.code y bytes maxL ret) fr lo (64 * (Z - ct σ)) (768 * (Z - ct σ)) as σ (fun _ => .inl (some (.long r))) σ1 (64 * (ct σ1 - ct σ)) (768 * (ct σ1 - ct σ))) (has : as B = As)
    (hml : Cond.methodLink own idx y ∈ WT) (hstt : Cond.static y ∈ WT) (hini : Cond.initialized y.cls ∈ WT) (hco : Cond.code y bytes maxL ret ∈ WT) (hd : y.cls ≠ "java/lang/invoke/MethodHandle" ∧ y.cls ≠ "java/lang/invoke/VarHandle" ∧ (parseMethodDescriptor y.desc).map (fun d => d.parameters.length) = some As.length)
    (hR : fr + 1 ≤ fR ∧ 8 + (maxL + 11) + lo ≤ lR) (hz : ct σ ≤ ct σ1 ∧ ct σ1 ≤ Z) (hrm : (st.map fun v => v.category).sum ≤ 8) (d : decode cc pc = .ok (.invokestatic idx, 3)) {pre : List Value} (hpre : pre = As.reverse ++ st)
    (kk : Hc c0 Z σ1 → V Γ D B true nL Q (kg k0 c0 σ1) (ng n0 c0 σ1) σ1 (pc + 3) lv (.long r :: st)) : V Γ D B true nL Q (kg k0 c0 σ) (ng n0 c0 σ) σ pc lv pre := y_callXS (v := fun _ => (some (.long r))) X M Y hc hC has hml hstt hini hco hd hR hz hrm d hpre kk
theorem y_callWS (X : Cx Γ own cc nL D B rm) (M : RLe rm Z k0 n0 c0 fR lR) (Y : Xy Γ B) (hc : Hc c0 Z σ) {idx maxL fr lo : Nat} {y : MethodName} {bytes : ByteArray} {ret : Option FieldType} {hh : List (Nat × Nat × Nat × Nat)} {as : Nat → List Value} {v : Nat → Option Value} {σ1 : St} {As : List Value} (hC : CX true y (Cond.codeWith y bytes maxL ret hh) fr lo (64 * (Z - ct σ)) (768 * (Z - ct σ)) as σ (fun B => .inl (v B)) σ1 (64 * (ct σ1 - ct σ)) (768 * (ct σ1 - ct σ))) (has : as B = As)
    (hml : Cond.methodLink own idx y ∈ WT) (hstt : Cond.static y ∈ WT) (hini : Cond.initialized y.cls ∈ WT) (hco : Cond.codeWith y bytes maxL ret hh ∈ WT) (hd : y.cls ≠ "java/lang/invoke/MethodHandle" ∧ y.cls ≠ "java/lang/invoke/VarHandle" ∧ (parseMethodDescriptor y.desc).map (fun d => d.parameters.length) = some As.length)
    (hR : fr + 1 ≤ fR ∧ 8 + (maxL + 11) + lo ≤ lR) (hz : ct σ ≤ ct σ1 ∧ ct σ1 ≤ Z) (hrm : (st.map fun v => v.category).sum ≤ 8) (d : decode cc pc = .ok (.invokestatic idx, 3)) {pre : List Value} (hpre : pre = As.reverse ++ st)
    (kk : Hc c0 Z σ1 → V Γ D B true nL Q (kg k0 c0 σ1) (ng n0 c0 σ1) σ1 (pc + 3) lv ((v B).toList ++ st)) : V Γ D B true nL Q (kg k0 c0 σ) (ng n0 c0 σ) σ pc lv pre := by
  subst hpre
  exact fun H locs ls cs ss hP hS hl hk hn => by
    have hR9 := X.2.2.2.2.2.2.2.2
    obtain ⟨hc1, hc2⟩ := hc
    unfold kg at hk
    unfold ng at hn
    refine w_callX hP hS (vz_runSX (rc := 64 * (Z - ct σ)) (rs := 768 * (Z - ct σ)) (As := As) (rest := st) ⟨X.1, X.2.1, X.2.2.1, X.2.2.2.1, X.2.2.2.2.1⟩ (hC Γ.2.1 D B Y.1) (vx_cwSW As.length X.2.2.2.2.1 (WT_cons hml (WT_cons hstt (WT_cons hini (WT_call hco)))) rfl rfl rfl hd ⟨by show fr + 1 ≤ (GR Γ).frames; rw [hR9]; exact Nat.le_trans hR.1 M.1, by show 8 + (maxL + 11) + lo ≤ (GR Γ).locals; rw [hR9]; exact Nat.le_trans hR.2 M.2.1⟩) ⟨blindX, fun U hU hW => ⟨by rw [has], by rw [hU]; exact hP, KK.moved hW X.2.2.2.2.2.1, KE.to hW Y.2 (by rw [hU]; exact hS)⟩⟩ rfl rfl hl.1 rfl (lv_room hrm) d ⟨by show cs + 64 * (Z - ct σ) ≤ (GR Γ).cells; rw [hR9]; exact Nat.le_trans (by omega) M.2.2.1, by show ss + 768 * (Z - ct σ) ≤ (GR Γ).slots; rw [hR9]; exact Nat.le_trans (by omega) M.2.2.2⟩) (fun v9 hv H1 locs1 hsz hP1 hS1 => ?_) (fun E hE => by cases hE)
    cases hv
    exact kk ⟨by omega, hz.2⟩ H1 locs1 ls _ _ hP1 hS1 hl (by unfold kg; omega) (by unfold ng; omega)
theorem y_callWSv (X : Cx Γ own cc nL D B rm) (M : RLe rm Z k0 n0 c0 fR lR) (Y : Xy Γ B) (hc : Hc c0 Z σ) {idx maxL fr lo : Nat} {y : MethodName} {bytes : ByteArray} {ret : Option FieldType} {hh : List (Nat × Nat × Nat × Nat)} {as : Nat → List Value} {σ1 : St} {As : List Value} (hC : CX true y (Cond.codeWith y bytes maxL ret hh) fr lo (64 * (Z - ct σ)) (768 * (Z - ct σ)) as σ (fun _ => .inl none) σ1 (64 * (ct σ1 - ct σ)) (768 * (ct σ1 - ct σ))) (has : as B = As)
    (hml : Cond.methodLink own idx y ∈ WT) (hstt : Cond.static y ∈ WT) (hini : Cond.initialized y.cls ∈ WT) (hco : Cond.codeWith y bytes maxL ret hh ∈ WT) (hd : y.cls ≠ "java/lang/invoke/MethodHandle" ∧ y.cls ≠ "java/lang/invoke/VarHandle" ∧ (parseMethodDescriptor y.desc).map (fun d => d.parameters.length) = some As.length)
    (hR : fr + 1 ≤ fR ∧ 8 + (maxL + 11) + lo ≤ lR) (hz : ct σ ≤ ct σ1 ∧ ct σ1 ≤ Z) (hrm : (st.map fun v => v.category).sum ≤ 8) (d : decode cc pc = .ok (.invokestatic idx, 3)) {pre : List Value} (hpre : pre = As.reverse ++ st)
    (kk : Hc c0 Z σ1 → V Γ D B true nL Q (kg k0 c0 σ1) (ng n0 c0 σ1) σ1 (pc + 3) lv st) : V Γ D B true nL Q (kg k0 c0 σ) (ng n0 c0 σ) σ pc lv pre := y_callWS (v := fun _ => none) X M Y hc hC has hml hstt hini hco hd hR hz hrm d hpre kk
theorem y_callWSi (X : Cx Γ own cc nL D B rm) (M : RLe rm Z k0 n0 c0 fR lR) (Y : Xy Γ B) (hc : Hc c0 Z σ) {idx maxL fr lo : Nat} {y : MethodName} {bytes : ByteArray} {ret : Option FieldType} {hh : List (Nat × Nat × Nat × Nat)} {as : Nat → List Value} {r : Int32} {σ1 : St} {As : List Value} (hC : CX true y (Cond.codeWith y bytes maxL ret hh) fr lo (64 * (Z - ct σ)) (768 * (Z - ct σ)) as σ (fun _ => .inl (some (.int r))) σ1 (64 * (ct σ1 - ct σ)) (768 * (ct σ1 - ct σ))) (has : as B = As)
    (hml : Cond.methodLink own idx y ∈ WT) (hstt : Cond.static y ∈ WT) (hini : Cond.initialized y.cls ∈ WT) (hco : Cond.codeWith y bytes maxL ret hh ∈ WT) (hd : y.cls ≠ "java/lang/invoke/MethodHandle" ∧ y.cls ≠ "java/lang/invoke/VarHandle" ∧ (parseMethodDescriptor y.desc).map (fun d => d.parameters.length) = some As.length)
    (hR : fr + 1 ≤ fR ∧ 8 + (maxL + 11) + lo ≤ lR) (hz : ct σ ≤ ct σ1 ∧ ct σ1 ≤ Z) (hrm : (st.map fun v => v.category).sum ≤ 8) (d : decode cc pc = .ok (.invokestatic idx, 3)) {pre : List Value} (hpre : pre = As.reverse ++ st)
    (kk : Hc c0 Z σ1 → V Γ D B true nL Q (kg k0 c0 σ1) (ng n0 c0 σ1) σ1 (pc + 3) lv (.int r :: st)) : V Γ D B true nL Q (kg k0 c0 σ) (ng n0 c0 σ) σ pc lv pre := y_callWS (v := fun _ => (some (.int r))) X M Y hc hC has hml hstt hini hco hd hR hz hrm d hpre kk
theorem y_callWSl (X : Cx Γ own cc nL D B rm) (M : RLe rm Z k0 n0 c0 fR lR) (Y : Xy Γ B) (hc : Hc c0 Z σ) {idx maxL fr lo : Nat} {y : MethodName} {bytes : ByteArray} {ret : Option FieldType} {hh : List (Nat × Nat × Nat × Nat)} {as : Nat → List Value} {r : Int64} {σ1 : St} {As : List Value} (hC : CX true y (Cond.codeWith y bytes maxL ret hh) fr lo (64 * (Z - ct σ)) (768 * (Z - ct σ)) as σ (fun _ => .inl (some (.long r))) σ1 (64 * (ct σ1 - ct σ)) (768 * (ct σ1 - ct σ))) (has : as B = As)
    (hml : Cond.methodLink own idx y ∈ WT) (hstt : Cond.static y ∈ WT) (hini : Cond.initialized y.cls ∈ WT) (hco : Cond.codeWith y bytes maxL ret hh ∈ WT) (hd : y.cls ≠ "java/lang/invoke/MethodHandle" ∧ y.cls ≠ "java/lang/invoke/VarHandle" ∧ (parseMethodDescriptor y.desc).map (fun d => d.parameters.length) = some As.length)
    (hR : fr + 1 ≤ fR ∧ 8 + (maxL + 11) + lo ≤ lR) (hz : ct σ ≤ ct σ1 ∧ ct σ1 ≤ Z) (hrm : (st.map fun v => v.category).sum ≤ 8) (d : decode cc pc = .ok (.invokestatic idx, 3)) {pre : List Value} (hpre : pre = As.reverse ++ st)
    (kk : Hc c0 Z σ1 → V Γ D B true nL Q (kg k0 c0 σ1) (ng n0 c0 σ1) σ1 (pc + 3) lv (.long r :: st)) : V Γ D B true nL Q (kg k0 c0 σ) (ng n0 c0 σ) σ pc lv pre := y_callWS (v := fun _ => (some (.long r))) X M Y hc hC has hml hstt hini hco hd hR hz hrm d hpre kk
theorem y_callTS (X : Cx Γ own cc nL D B rm) (M : RLe rm Z k0 n0 c0 fR lR) (Y : Xy Γ B) {b L : Nat} {xs : Nat → Int32} (S : SX Γ B b L xs) (hc : Hc c0 Z σ) {idx maxL fr lo : Nat} {y : MethodName} {bytes : ByteArray} {ret : Option FieldType} {as : Nat → List Value} {v : Nat → Option Value} {σ1 : St} {As : List Value} (hC : CXs b L xs true y (Cond.code y bytes maxL ret) fr lo (64 * (Z - ct σ)) (768 * (Z - ct σ)) as σ (fun B => .inl (v B)) σ1 (64 * (ct σ1 - ct σ)) (768 * (ct σ1 - ct σ))) (has : as B = As)
    (hml : Cond.methodLink own idx y ∈ WT) (hstt : Cond.static y ∈ WT) (hini : Cond.initialized y.cls ∈ WT) (hco : Cond.code y bytes maxL ret ∈ WT) (hd : y.cls ≠ "java/lang/invoke/MethodHandle" ∧ y.cls ≠ "java/lang/invoke/VarHandle" ∧ (parseMethodDescriptor y.desc).map (fun d => d.parameters.length) = some As.length)
    (hR : fr + 1 ≤ fR ∧ 8 + (maxL + 11) + lo ≤ lR) (hz : ct σ ≤ ct σ1 ∧ ct σ1 ≤ Z) (hrm : (st.map fun v => v.category).sum ≤ 8) (d : decode cc pc = .ok (.invokestatic idx, 3)) {pre : List Value} (hpre : pre = As.reverse ++ st)
    (kk : Hc c0 Z σ1 → V Γ D B true nL Q (kg k0 c0 σ1) (ng n0 c0 σ1) σ1 (pc + 3) lv ((v B).toList ++ st)) : V Γ D B true nL Q (kg k0 c0 σ) (ng n0 c0 σ) σ pc lv pre := by
  subst hpre
  exact fun H locs ls cs ss hP hS hl hk hn => by
    have hR9 := X.2.2.2.2.2.2.2.2
    obtain ⟨hc1, hc2⟩ := hc
    unfold kg at hk
    unfold ng at hn
    refine w_callX hP hS (vz_runS (rc := 64 * (Z - ct σ)) (rs := 768 * (Z - ct σ)) (As := As) (rest := st) ⟨X.1, X.2.1, X.2.2.1, X.2.2.2.1, X.2.2.2.2.1⟩ (hC Γ.2.1 D B Y.1) (va_cwS As.length X.2.2.2.2.1 (WT_cons hml (WT_cons hstt (WT_cons hini (WT_call hco)))) rfl rfl rfl hd ⟨by show fr + 1 ≤ (GR Γ).frames; rw [hR9]; exact Nat.le_trans hR.1 M.1, by show 8 + (maxL + 11) + lo ≤ (GR Γ).locals; rw [hR9]; exact Nat.le_trans hR.2 M.2.1⟩) ⟨blindXs, fun U hU hW => ⟨by rw [has], by rw [hU]; exact hP, ⟨KK.moved hW X.2.2.2.2.2.1, KE.to hW Y.2 (by rw [hU]; exact hS)⟩, va_X.moved hW.alike (by rw [hU]; exact S.1.kept (hS.2.1 b (Nat.lt_of_lt_of_le S.2.1 X.2.2.2.2.2.2.2.1) (Nat.not_le.mpr S.2.1))), S.2⟩⟩ rfl rfl hl.1 rfl (lv_room hrm) d ⟨by show cs + 64 * (Z - ct σ) ≤ (GR Γ).cells; rw [hR9]; exact Nat.le_trans (by omega) M.2.2.1, by show ss + 768 * (Z - ct σ) ≤ (GR Γ).slots; rw [hR9]; exact Nat.le_trans (by omega) M.2.2.2⟩) (fun v9 hv H1 locs1 hsz hP1 hS1 => ?_) (fun E hE => by cases hE)
    cases hv
    exact kk ⟨by omega, hz.2⟩ H1 locs1 ls _ _ hP1 hS1 hl (by unfold kg; omega) (by unfold ng; omega)
theorem y_callTSv (X : Cx Γ own cc nL D B rm) (M : RLe rm Z k0 n0 c0 fR lR) (Y : Xy Γ B) {b L : Nat} {xs : Nat → Int32} (S : SX Γ B b L xs) (hc : Hc c0 Z σ) {idx maxL fr lo : Nat} {y : MethodName} {bytes : ByteArray} {ret : Option FieldType} {as : Nat → List Value} {σ1 : St} {As : List Value} (hC : CXs b L xs true y (Cond.code y bytes maxL ret) fr lo (64 * (Z - ct σ)) (768 * (Z - ct σ)) as σ (fun _ => .inl none) σ1 (64 * (ct σ1 - ct σ)) (768 * (ct σ1 - ct σ))) (has : as B = As)
    (hml : Cond.methodLink own idx y ∈ WT) (hstt : Cond.static y ∈ WT) (hini : Cond.initialized y.cls ∈ WT) (hco : Cond.code y bytes maxL ret ∈ WT) (hd : y.cls ≠ "java/lang/invoke/MethodHandle" ∧ y.cls ≠ "java/lang/invoke/VarHandle" ∧ (parseMethodDescriptor y.desc).map (fun d => d.parameters.length) = some As.length)
    (hR : fr + 1 ≤ fR ∧ 8 + (maxL + 11) + lo ≤ lR) (hz : ct σ ≤ ct σ1 ∧ ct σ1 ≤ Z) (hrm : (st.map fun v => v.category).sum ≤ 8) (d : decode cc pc = .ok (.invokestatic idx, 3)) {pre : List Value} (hpre : pre = As.reverse ++ st)
    (kk : Hc c0 Z σ1 → V Γ D B true nL Q (kg k0 c0 σ1) (ng n0 c0 σ1) σ1 (pc + 3) lv st) : V Γ D B true nL Q (kg k0 c0 σ) (ng n0 c0 σ) σ pc lv pre := y_callTS (v := fun _ => none) X M Y S hc hC has hml hstt hini hco hd hR hz hrm d hpre kk
theorem y_callTSi (X : Cx Γ own cc nL D B rm) (M : RLe rm Z k0 n0 c0 fR lR) (Y : Xy Γ B) {b L : Nat} {xs : Nat → Int32} (S : SX Γ B b L xs) (hc : Hc c0 Z σ) {idx maxL fr lo : Nat} {y : MethodName} {bytes : ByteArray} {ret : Option FieldType} {as : Nat → List Value} {r : Int32} {σ1 : St} {As : List Value} (hC : CXs b L xs true y (Cond.code y bytes maxL ret) fr lo (64 * (Z - ct σ)) (768 * (Z - ct σ)) as σ (fun _ => .inl (some (.int r))) σ1 (64 * (ct σ1 - ct σ)) (768 * (ct σ1 - ct σ))) (has : as B = As)
    (hml : Cond.methodLink own idx y ∈ WT) (hstt : Cond.static y ∈ WT) (hini : Cond.initialized y.cls ∈ WT) (hco : Cond.code y bytes maxL ret ∈ WT) (hd : y.cls ≠ "java/lang/invoke/MethodHandle" ∧ y.cls ≠ "java/lang/invoke/VarHandle" ∧ (parseMethodDescriptor y.desc).map (fun d => d.parameters.length) = some As.length)
    (hR : fr + 1 ≤ fR ∧ 8 + (maxL + 11) + lo ≤ lR) (hz : ct σ ≤ ct σ1 ∧ ct σ1 ≤ Z) (hrm : (st.map fun v => v.category).sum ≤ 8) (d : decode cc pc = .ok (.invokestatic idx, 3)) {pre : List Value} (hpre : pre = As.reverse ++ st)
    (kk : Hc c0 Z σ1 → V Γ D B true nL Q (kg k0 c0 σ1) (ng n0 c0 σ1) σ1 (pc + 3) lv (.int r :: st)) : V Γ D B true nL Q (kg k0 c0 σ) (ng n0 c0 σ) σ pc lv pre := y_callTS (v := fun _ => (some (.int r))) X M Y S hc hC has hml hstt hini hco hd hR hz hrm d hpre kk
theorem y_callTSl (X : Cx Γ own cc nL D B rm) (M : RLe rm Z k0 n0 c0 fR lR) (Y : Xy Γ B) {b L : Nat} {xs : Nat → Int32} (S : SX Γ B b L xs) (hc : Hc c0 Z σ) {idx maxL fr lo : Nat} {y : MethodName} {bytes : ByteArray} {ret : Option FieldType} {as : Nat → List Value} {r : Int64} {σ1 : St} {As : List Value} (hC : CXs b L xs true y (Cond.code y bytes maxL ret) fr lo (64 * (Z - ct σ)) (768 * (Z - ct σ)) as σ (fun _ => .inl (some (.long r))) σ1 (64 * (ct σ1 - ct σ)) (768 * (ct σ1 - ct σ))) (has : as B = As)
    (hml : Cond.methodLink own idx y ∈ WT) (hstt : Cond.static y ∈ WT) (hini : Cond.initialized y.cls ∈ WT) (hco : Cond.code y bytes maxL ret ∈ WT) (hd : y.cls ≠ "java/lang/invoke/MethodHandle" ∧ y.cls ≠ "java/lang/invoke/VarHandle" ∧ (parseMethodDescriptor y.desc).map (fun d => d.parameters.length) = some As.length)
    (hR : fr + 1 ≤ fR ∧ 8 + (maxL + 11) + lo ≤ lR) (hz : ct σ ≤ ct σ1 ∧ ct σ1 ≤ Z) (hrm : (st.map fun v => v.category).sum ≤ 8) (d : decode cc pc = .ok (.invokestatic idx, 3)) {pre : List Value} (hpre : pre = As.reverse ++ st)
    (kk : Hc c0 Z σ1 → V Γ D B true nL Q (kg k0 c0 σ1) (ng n0 c0 σ1) σ1 (pc + 3) lv (.long r :: st)) : V Γ D B true nL Q (kg k0 c0 σ) (ng n0 c0 σ) σ pc lv pre := y_callTS (v := fun _ => (some (.long r))) X M Y S hc hC has hml hstt hini hco hd hR hz hrm d hpre kk
theorem t_callZi (X : Cx Γ own cc nL D B rm) (M : RLe rm Z k0 n0 c0 fR lR) (Y : Xy Γ B) (hc : Hc c0 Z σ) {idx maxL fr lo a : Nat} {C : String} {y : MethodName} {bytes : ByteArray} {ret : Option FieldType} {as : Nat → List Value} {o : Int32 ⊕ Nat} {σ2 : St} {As : List Value} {α : Type} {hcf : Nat → Option α} {kf : Int32 → Option α} {z : α} (hC : CB9 true y (Cond.code y bytes maxL ret) fr lo Z as σ (ouI o) σ2) (has : as B = .ref (B + a) :: As)
    (hml : Cond.methodLink own idx y ∈ WT) (hin : Cond.instanceMethod y ∈ WT) (hse : Cond.selects C y y ∈ WT) (hini : Cond.initialized C ∈ WT) (hco : Cond.code y bytes maxL ret ∈ WT) (hd : y.cls = C ∧ y.cls ≠ "java/lang/invoke/MethodHandle" ∧ y.cls ≠ "java/lang/invoke/VarHandle" ∧ (parseMethodDescriptor y.desc).map (fun d => d.parameters.length) = some As.length) (hrc : Rc D B true σ C a)
    (hR : fr + 1 ≤ fR ∧ 8 + (maxL + 11) + lo ≤ lR) (hrm : (st.map fun v => v.category).sum ≤ 8) (d : decode cc pc = .ok (.invokevirtual idx, 3)) {pre : List Value} (hpre : pre = As.reverse ++ .ref (B + a) :: st) (hf : hnd o hcf kf = some z)
    (kk : ∀ v, Hc c0 Z σ2 → kf v = some z → V Γ D B true nL Q (kg k0 c0 σ2) (ng n0 c0 σ2) σ2 (pc + 3) lv (.int v :: st))
    (kx : ∀ e, Hc c0 Z σ2 → hcf e = some z → ∀ (H1 : Heap) (locs1 : List Loc) (ls : Array Slot) (ce : Cell) (q9 : Addr), Pic D B true σ2 H1 → va_S (fun q => B ≤ q) (Gs Γ).heap H1 locs1 → lv_has ls nL lv → H1[q9]? = some ce → ce.vm = .none → (Gs Γ).vm.findClass (exN e) = some ce.cls →
      vx_W Γ.1 Γ.2.1 Γ.2.2.1 Γ.2.2.2.1 Γ.2.2.2.2.1 Γ.2.2.2.2.2.1 Γ.2.2.2.2.2.2.1 Γ.2.2.2.2.2.2.2.1 Γ.2.2.2.2.2.2.2.2.1 Γ.2.2.2.2.2.2.2.2.2 H1 locs1 (kg k0 c0 σ2) (ng n0 c0 σ2) Q (F0 (Gm Γ) pc ls st) q9) : V Γ D B true nL Q (kg k0 c0 σ) (ng n0 c0 σ) σ pc lv pre := by
  subst hpre
  obtain ⟨σ1, b, rfl, hb, hC⟩ := hC
  exact fun H locs ls cs ss hP hS hl hk hn => by
    have hR9 := X.2.2.2.2.2.2.2.2
    obtain ⟨hc1, hc2⟩ := hc
    have hc9 : Hc c0 Z (kb σ σ1 b) := ⟨by rw [ct_kb]; omega, by rw [ct_kb]; exact hb⟩
    have e1 : cs + 64 * b ≤ kg k0 c0 (kb σ σ1 b) := by unfold kg at hk ⊢; rw [ct_kb]; omega
    have e2 : ss + 768 * b ≤ ng n0 c0 (kb σ σ1 b) := by unfold ng at hn ⊢; rw [ct_kb]; omega
    unfold kg at hk
    unfold ng at hn
    obtain ⟨ci, N, T, fs, hcl, hat⟩ := hrc
    refine w_callX hP hS (vz_runV (rc := 64 * b) (rs := 768 * b) (As := As) (rest := st) ⟨X.1, X.2.1, X.2.2.1, X.2.2.2.1, X.2.2.2.2.1⟩ (hC Γ.2.1 D B Y.1) (cwV As.length X.2.2.2.2.1 (WT_cons hml (WT_cons hin (WT_cons hse (WT_cons hini (WT_call hco))))) rfl rfl rfl hd ⟨by show fr + 1 ≤ (GR Γ).frames; rw [hR9]; exact Nat.le_trans hR.1 M.1, by show 8 + (maxL + 11) + lo ≤ (GR Γ).locals; rw [hR9]; exact Nat.le_trans hR.2 M.2.1⟩) ⟨blindX, recv X.2.2.2.2.2.1.1 hcl (hat H hP), fun U hU hW => ⟨by rw [has], by rw [hU]; exact hP, KK.moved hW X.2.2.2.2.2.1, KE.to hW Y.2 (by rw [hU]; exact hS)⟩⟩ rfl rfl hl.1 rfl (lv_room hrm) d ⟨by show cs + 64 * b ≤ (GR Γ).cells; rw [hR9]; exact Nat.le_trans (by omega) M.2.2.1, by show ss + 768 * b ≤ (GR Γ).slots; rw [hR9]; exact Nat.le_trans (by omega) M.2.2.2⟩) (fun v9 hv H1 locs1 hsz hP1 hS1 => ?_) (fun E hE H1 locs1 ce q9 hsz hP1 hS1 h5 h6 h7 => ?_)
    · cases o with
      | inr e => cases hv
      | inl v =>
        cases hv
        exact kk v hc9 hf H1 locs1 ls _ _ hP1.kb hS1 hl e1 e2
    · cases o with
      | inl v => cases hE
      | inr e =>
        obtain rfl : exN e = E := Sum.inr.inj hE
        exact vx_widen e1 e2 (kx e hc9 hf H1 locs1 ls ce q9 hP1.kb hS1 hl h5 h6 h7)
theorem y_callXVi (X : Cx Γ own cc nL D B rm) (M : RLe rm Z k0 n0 c0 fR lR) (Y : Xy Γ B) (hc : Hc c0 Z σ) {idx maxL fr lo a : Nat} {C : String} {y : MethodName} {bytes : ByteArray} {ret : Option FieldType} {as : Nat → List Value} {o : Int32 ⊕ Nat} {σ2 : St} {As : List Value} {v : Int32} (hC : CB9 true y (Cond.code y bytes maxL ret) fr lo Z as σ (ouI o) σ2) (has : as B = .ref (B + a) :: As)
    (hml : Cond.methodLink own idx y ∈ WT) (hin : Cond.instanceMethod y ∈ WT) (hse : Cond.selects C y y ∈ WT) (hini : Cond.initialized C ∈ WT) (hco : Cond.code y bytes maxL ret ∈ WT) (hd : y.cls = C ∧ y.cls ≠ "java/lang/invoke/MethodHandle" ∧ y.cls ≠ "java/lang/invoke/VarHandle" ∧ (parseMethodDescriptor y.desc).map (fun d => d.parameters.length) = some As.length) (hrc : Rc D B true σ C a)
    (hR : fr + 1 ≤ fR ∧ 8 + (maxL + 11) + lo ≤ lR) (hrm : (st.map fun v => v.category).sum ≤ 8) (d : decode cc pc = .ok (.invokevirtual idx, 3)) {pre : List Value} (hpre : pre = As.reverse ++ .ref (B + a) :: st) (ho : an o = some v)
    (kk : Hc c0 Z σ2 → V Γ D B true nL Q (kg k0 c0 σ2) (ng n0 c0 σ2) σ2 (pc + 3) lv (.int v :: st)) : V Γ D B true nL Q (kg k0 c0 σ) (ng n0 c0 σ) σ pc lv pre :=
  t_callZi X M Y hc (hcf := fun _ => none) (kf := fun v => some v) (z := v) hC has hml hin hse hini hco hd hrc hR hrm d hpre (by
    cases o with
    | inl x => cases ho; rfl
    | inr e => cases ho) (fun v' h9 e => by cases e; exact kk h9) (fun e h9 he => by cases he)
theorem t_callZl (X : Cx Γ own cc nL D B rm) (M : RLe rm Z k0 n0 c0 fR lR) (Y : Xy Γ B) (hc : Hc c0 Z σ) {idx maxL fr lo a : Nat} {C : String} {y : MethodName} {bytes : ByteArray} {ret : Option FieldType} {as : Nat → List Value} {o : Int64 ⊕ Nat} {σ2 : St} {As : List Value} {α : Type} {hcf : Nat → Option α} {kf : Int64 → Option α} {z : α} (hC : CB9 true y (Cond.code y bytes maxL ret) fr lo Z as σ (ouL o) σ2) (has : as B = .ref (B + a) :: As)
    (hml : Cond.methodLink own idx y ∈ WT) (hin : Cond.instanceMethod y ∈ WT) (hse : Cond.selects C y y ∈ WT) (hini : Cond.initialized C ∈ WT) (hco : Cond.code y bytes maxL ret ∈ WT) (hd : y.cls = C ∧ y.cls ≠ "java/lang/invoke/MethodHandle" ∧ y.cls ≠ "java/lang/invoke/VarHandle" ∧ (parseMethodDescriptor y.desc).map (fun d => d.parameters.length) = some As.length) (hrc : Rc D B true σ C a)
    (hR : fr + 1 ≤ fR ∧ 8 + (maxL + 11) + lo ≤ lR) (hrm : (st.map fun v => v.category).sum ≤ 8) (d : decode cc pc = .ok (.invokevirtual idx, 3)) {pre : List Value} (hpre : pre = As.reverse ++ .ref (B + a) :: st) (hf : hnd o hcf kf = some z)
    (kk : ∀ v, Hc c0 Z σ2 → kf v = some z → V Γ D B true nL Q (kg k0 c0 σ2) (ng n0 c0 σ2) σ2 (pc + 3) lv (.long v :: st))
    (kx : ∀ e, Hc c0 Z σ2 → hcf e = some z → ∀ (H1 : Heap) (locs1 : List Loc) (ls : Array Slot) (ce : Cell) (q9 : Addr), Pic D B true σ2 H1 → va_S (fun q => B ≤ q) (Gs Γ).heap H1 locs1 → lv_has ls nL lv → H1[q9]? = some ce → ce.vm = .none → (Gs Γ).vm.findClass (exN e) = some ce.cls →
      vx_W Γ.1 Γ.2.1 Γ.2.2.1 Γ.2.2.2.1 Γ.2.2.2.2.1 Γ.2.2.2.2.2.1 Γ.2.2.2.2.2.2.1 Γ.2.2.2.2.2.2.2.1 Γ.2.2.2.2.2.2.2.2.1 Γ.2.2.2.2.2.2.2.2.2 H1 locs1 (kg k0 c0 σ2) (ng n0 c0 σ2) Q (F0 (Gm Γ) pc ls st) q9) : V Γ D B true nL Q (kg k0 c0 σ) (ng n0 c0 σ) σ pc lv pre := by
  subst hpre
  obtain ⟨σ1, b, rfl, hb, hC⟩ := hC
  exact fun H locs ls cs ss hP hS hl hk hn => by
    have hR9 := X.2.2.2.2.2.2.2.2
    obtain ⟨hc1, hc2⟩ := hc
    have hc9 : Hc c0 Z (kb σ σ1 b) := ⟨by rw [ct_kb]; omega, by rw [ct_kb]; exact hb⟩
    have e1 : cs + 64 * b ≤ kg k0 c0 (kb σ σ1 b) := by unfold kg at hk ⊢; rw [ct_kb]; omega
    have e2 : ss + 768 * b ≤ ng n0 c0 (kb σ σ1 b) := by unfold ng at hn ⊢; rw [ct_kb]; omega
    unfold kg at hk
    unfold ng at hn
    obtain ⟨ci, N, T, fs, hcl, hat⟩ := hrc
    refine w_callX hP hS (vz_runV (rc := 64 * b) (rs := 768 * b) (As := As) (rest := st) ⟨X.1, X.2.1, X.2.2.1, X.2.2.2.1, X.2.2.2.2.1⟩ (hC Γ.2.1 D B Y.1) (cwV As.length X.2.2.2.2.1 (WT_cons hml (WT_cons hin (WT_cons hse (WT_cons hini (WT_call hco))))) rfl rfl rfl hd ⟨by show fr + 1 ≤ (GR Γ).frames; rw [hR9]; exact Nat.le_trans hR.1 M.1, by show 8 + (maxL + 11) + lo ≤ (GR Γ).locals; rw [hR9]; exact Nat.le_trans hR.2 M.2.1⟩) ⟨blindX, recv X.2.2.2.2.2.1.1 hcl (hat H hP), fun U hU hW => ⟨by rw [has], by rw [hU]; exact hP, KK.moved hW X.2.2.2.2.2.1, KE.to hW Y.2 (by rw [hU]; exact hS)⟩⟩ rfl rfl hl.1 rfl (lv_room hrm) d ⟨by show cs + 64 * b ≤ (GR Γ).cells; rw [hR9]; exact Nat.le_trans (by omega) M.2.2.1, by show ss + 768 * b ≤ (GR Γ).slots; rw [hR9]; exact Nat.le_trans (by omega) M.2.2.2⟩) (fun v9 hv H1 locs1 hsz hP1 hS1 => ?_) (fun E hE H1 locs1 ce q9 hsz hP1 hS1 h5 h6 h7 => ?_)
    · cases o with
      | inr e => cases hv
      | inl v =>
        cases hv
        exact kk v hc9 hf H1 locs1 ls _ _ hP1.kb hS1 hl e1 e2
    · cases o with
      | inl v => cases hE
      | inr e =>
        obtain rfl : exN e = E := Sum.inr.inj hE
        exact vx_widen e1 e2 (kx e hc9 hf H1 locs1 ls ce q9 hP1.kb hS1 hl h5 h6 h7)
theorem y_callXVl (X : Cx Γ own cc nL D B rm) (M : RLe rm Z k0 n0 c0 fR lR) (Y : Xy Γ B) (hc : Hc c0 Z σ) {idx maxL fr lo a : Nat} {C : String} {y : MethodName} {bytes : ByteArray} {ret : Option FieldType} {as : Nat → List Value} {o : Int64 ⊕ Nat} {σ2 : St} {As : List Value} {v : Int64} (hC : CB9 true y (Cond.code y bytes maxL ret) fr lo Z as σ (ouL o) σ2) (has : as B = .ref (B + a) :: As)
    (hml : Cond.methodLink own idx y ∈ WT) (hin : Cond.instanceMethod y ∈ WT) (hse : Cond.selects C y y ∈ WT) (hini : Cond.initialized C ∈ WT) (hco : Cond.code y bytes maxL ret ∈ WT) (hd : y.cls = C ∧ y.cls ≠ "java/lang/invoke/MethodHandle" ∧ y.cls ≠ "java/lang/invoke/VarHandle" ∧ (parseMethodDescriptor y.desc).map (fun d => d.parameters.length) = some As.length) (hrc : Rc D B true σ C a)
    (hR : fr + 1 ≤ fR ∧ 8 + (maxL + 11) + lo ≤ lR) (hrm : (st.map fun v => v.category).sum ≤ 8) (d : decode cc pc = .ok (.invokevirtual idx, 3)) {pre : List Value} (hpre : pre = As.reverse ++ .ref (B + a) :: st) (ho : an o = some v)
    (kk : Hc c0 Z σ2 → V Γ D B true nL Q (kg k0 c0 σ2) (ng n0 c0 σ2) σ2 (pc + 3) lv (.long v :: st)) : V Γ D B true nL Q (kg k0 c0 σ) (ng n0 c0 σ) σ pc lv pre :=
  t_callZl X M Y hc (hcf := fun _ => none) (kf := fun v => some v) (z := v) hC has hml hin hse hini hco hd hrc hR hrm d hpre (by
    cases o with
    | inl x => cases ho; rfl
    | inr e => cases ho) (fun v' h9 e => by cases e; exact kk h9) (fun e h9 he => by cases he)
theorem t_callZv (X : Cx Γ own cc nL D B rm) (M : RLe rm Z k0 n0 c0 fR lR) (Y : Xy Γ B) (hc : Hc c0 Z σ) {idx maxL fr lo a : Nat} {C : String} {y : MethodName} {bytes : ByteArray} {ret : Option FieldType} {as : Nat → List Value} {o : Unit ⊕ Nat} {σ2 : St} {As : List Value} {α : Type} {hcf : Nat → Option α} {kf : Unit → Option α} {z : α} (hC : CB9 true y (Cond.code y bytes maxL ret) fr lo Z as σ (ouV o) σ2) (has : as B = .ref (B + a) :: As)
    (hml : Cond.methodLink own idx y ∈ WT) (hin : Cond.instanceMethod y ∈ WT) (hse : Cond.selects C y y ∈ WT) (hini : Cond.initialized C ∈ WT) (hco : Cond.code y bytes maxL ret ∈ WT) (hd : y.cls = C ∧ y.cls ≠ "java/lang/invoke/MethodHandle" ∧ y.cls ≠ "java/lang/invoke/VarHandle" ∧ (parseMethodDescriptor y.desc).map (fun d => d.parameters.length) = some As.length) (hrc : Rc D B true σ C a)
    (hR : fr + 1 ≤ fR ∧ 8 + (maxL + 11) + lo ≤ lR) (hrm : (st.map fun v => v.category).sum ≤ 8) (d : decode cc pc = .ok (.invokevirtual idx, 3)) {pre : List Value} (hpre : pre = As.reverse ++ .ref (B + a) :: st) (hf : hnd o hcf kf = some z)
    (kk : ∀ v, Hc c0 Z σ2 → kf v = some z → V Γ D B true nL Q (kg k0 c0 σ2) (ng n0 c0 σ2) σ2 (pc + 3) lv st)
    (kx : ∀ e, Hc c0 Z σ2 → hcf e = some z → ∀ (H1 : Heap) (locs1 : List Loc) (ls : Array Slot) (ce : Cell) (q9 : Addr), Pic D B true σ2 H1 → va_S (fun q => B ≤ q) (Gs Γ).heap H1 locs1 → lv_has ls nL lv → H1[q9]? = some ce → ce.vm = .none → (Gs Γ).vm.findClass (exN e) = some ce.cls →
      vx_W Γ.1 Γ.2.1 Γ.2.2.1 Γ.2.2.2.1 Γ.2.2.2.2.1 Γ.2.2.2.2.2.1 Γ.2.2.2.2.2.2.1 Γ.2.2.2.2.2.2.2.1 Γ.2.2.2.2.2.2.2.2.1 Γ.2.2.2.2.2.2.2.2.2 H1 locs1 (kg k0 c0 σ2) (ng n0 c0 σ2) Q (F0 (Gm Γ) pc ls st) q9) : V Γ D B true nL Q (kg k0 c0 σ) (ng n0 c0 σ) σ pc lv pre := by
  subst hpre
  obtain ⟨σ1, b, rfl, hb, hC⟩ := hC
  exact fun H locs ls cs ss hP hS hl hk hn => by
    have hR9 := X.2.2.2.2.2.2.2.2
    obtain ⟨hc1, hc2⟩ := hc
    have hc9 : Hc c0 Z (kb σ σ1 b) := ⟨by rw [ct_kb]; omega, by rw [ct_kb]; exact hb⟩
    have e1 : cs + 64 * b ≤ kg k0 c0 (kb σ σ1 b) := by unfold kg at hk ⊢; rw [ct_kb]; omega
    have e2 : ss + 768 * b ≤ ng n0 c0 (kb σ σ1 b) := by unfold ng at hn ⊢; rw [ct_kb]; omega
    unfold kg at hk
    unfold ng at hn
    obtain ⟨ci, N, T, fs, hcl, hat⟩ := hrc
    refine w_callX hP hS (vz_runV (rc := 64 * b) (rs := 768 * b) (As := As) (rest := st) ⟨X.1, X.2.1, X.2.2.1, X.2.2.2.1, X.2.2.2.2.1⟩ (hC Γ.2.1 D B Y.1) (cwV As.length X.2.2.2.2.1 (WT_cons hml (WT_cons hin (WT_cons hse (WT_cons hini (WT_call hco))))) rfl rfl rfl hd ⟨by show fr + 1 ≤ (GR Γ).frames; rw [hR9]; exact Nat.le_trans hR.1 M.1, by show 8 + (maxL + 11) + lo ≤ (GR Γ).locals; rw [hR9]; exact Nat.le_trans hR.2 M.2.1⟩) ⟨blindX, recv X.2.2.2.2.2.1.1 hcl (hat H hP), fun U hU hW => ⟨by rw [has], by rw [hU]; exact hP, KK.moved hW X.2.2.2.2.2.1, KE.to hW Y.2 (by rw [hU]; exact hS)⟩⟩ rfl rfl hl.1 rfl (lv_room hrm) d ⟨by show cs + 64 * b ≤ (GR Γ).cells; rw [hR9]; exact Nat.le_trans (by omega) M.2.2.1, by show ss + 768 * b ≤ (GR Γ).slots; rw [hR9]; exact Nat.le_trans (by omega) M.2.2.2⟩) (fun v9 hv H1 locs1 hsz hP1 hS1 => ?_) (fun E hE H1 locs1 ce q9 hsz hP1 hS1 h5 h6 h7 => ?_)
    · cases o with
      | inr e => cases hv
      | inl v =>
        cases hv
        exact kk v hc9 hf H1 locs1 ls _ _ hP1.kb hS1 hl e1 e2
    · cases o with
      | inl v => cases hE
      | inr e =>
        obtain rfl : exN e = E := Sum.inr.inj hE
        exact vx_widen e1 e2 (kx e hc9 hf H1 locs1 ls ce q9 hP1.kb hS1 hl h5 h6 h7)
theorem y_iret (X : Cx Γ own cc nL D B rm) {x r : Int32} {σ' : St} (hr : (Gme Γ).sig.returnType = some .int) (hf : some (x, σ) = some (r, σ')) (d : decode cc pc = .ok (.ireturn, 1)) : V Γ D B w nL (QX Γ D B w σ' (.inl (some (.int r))) (64 * (ct σ' - c0)) (768 * (ct σ' - c0))) (kg 0 c0 σ) (ng 0 c0 σ) σ pc lv [.int x] := by
  cases hf
  exact V.ret (e_iret X hr rfl (by unfold kg; omega) (by unfold ng; omega) d)
theorem y_zret (X : Cx Γ own cc nL D B rm) {x r : Int32} {σ' : St} (hr : (Gme Γ).sig.returnType = some .boolean) (hx : x = 0 ∨ x = 1) (hf : some (x, σ) = some (r, σ')) (d : decode cc pc = .ok (.ireturn, 1)) : V Γ D B w nL (QX Γ D B w σ' (.inl (some (.int r))) (64 * (ct σ' - c0)) (768 * (ct σ' - c0))) (kg 0 c0 σ) (ng 0 c0 σ) σ pc lv [.int x] := by
  cases hf
  exact V.ret (e_zret X hr hx rfl (by unfold kg; omega) (by unfold ng; omega) d)
theorem y_lret (X : Cx Γ own cc nL D B rm) {x r : Int64} {σ' : St} (hr : (Gme Γ).sig.returnType = some .long) (hf : some (x, σ) = some (r, σ')) (d : decode cc pc = .ok (.lreturn, 1)) : V Γ D B w nL (QX Γ D B w σ' (.inl (some (.long r))) (64 * (ct σ' - c0)) (768 * (ct σ' - c0))) (kg 0 c0 σ) (ng 0 c0 σ) σ pc lv [.long x] := by
  cases hf
  exact V.ret (e_lret X hr rfl (by unfold kg; omega) (by unfold ng; omega) d)
/-- a handler: by its entry x behind the entries pre, that name other classes -/
theorem y_catch (X : Cx Γ own cc nL D B rm) (Y : Xy Γ B) {hh : List (Nat × Nat × Nat × Nat)} (Yt : (Gc Γ).exceptionTable.toList = tableOf hh) {E : String} {H1 : Heap} {locs1 : List Loc} {ls : Array Slot} {ce : Cell} {q9 : Addr} (h4 : H1[q9]? = some ce) (h5 : ce.vm = .none) (h6 : (Gs Γ).vm.findClass E = some ce.cls)
    (pre suf : List (Nat × Nat × Nat × Nat)) {sp ep hp ct : Nat} (hsplit : hh = pre ++ (sp, ep, hp, ct) :: suf) (hpass : ∀ z ∈ pre, z.2.2.2 ≠ 0 ∧ ∃ nm : String, Cond.classLink own z.2.2.2 nm ∈ WT ∧ (E, nm) ∈ NCs) (hx : covers ⟨sp, ep, hp, ct⟩ pc = true) (hct : ct ≠ 0) (hlink : Cond.classLink own ct E ∈ WT) (hcast : Cond.castable E E ∈ lw_tbl)
    (kk : GW Γ H1 locs1 k n Q (F0 (Gm Γ) hp ls [.ref q9])) :
    vx_W Γ.1 Γ.2.1 Γ.2.2.1 Γ.2.2.2.1 Γ.2.2.2.2.1 Γ.2.2.2.2.2.1 Γ.2.2.2.2.2.2.1 Γ.2.2.2.2.2.2.2.1 Γ.2.2.2.2.2.2.2.2.1 Γ.2.2.2.2.2.2.2.2.2 H1 locs1 k n Q (F0 (Gm Γ) pc ls st) q9 := by
  refine vx_catch (own := own) (name := E) (E := E) X.2.2.2.1 (tableOf pre) ⟨sp, ep, hp, ct⟩ (tableOf suf) (by rw [Yt, hsplit]; simp [tableOf]) (fun z hz => ?_) hx hct (X.w hlink) (va_Nw.use rfl (Y.2.2.2.2.2.1 _ _ hcast)) h4 h5 h6 kk
  obtain ⟨z0, hz0, rfl⟩ := List.mem_map.mp hz
  obtain ⟨e1, nm, e2, e3⟩ := hpass z0 hz0
  exact Or.inr ⟨e1, nm, X.w e2, Y.2.2.2.2.2.2 _ e3⟩
/-- the exception laid away, the rest a walk -/
theorem y_hand (X : Cx Γ own cc nL D B rm) {H1 : Heap} {locs1 : List Loc} {ls : Array Slot} {q9 hp kl : Nat} (h2 : Pic D B w σ H1) (h3 : va_S (fun q => B ≤ q) (Gs Γ).heap H1 locs1) (hl : lv_has ls nL lv) (hk : kl < nL) (d0 : decode cc hp = .ok (.astore kl, 2)) (kk : V Γ D B w nL Q k n σ (hp + 2) [] []) : GW Γ H1 locs1 k n Q (F0 (Gm Γ) hp ls [.ref q9]) :=
  lv_astore X.1 X.2.1 d0 hl hk rfl (fun ls' hl' => kk H1 locs1 ls' _ _ h2 h3 (lv_sub hl' [] rfl) (Nat.le_refl _) (Nat.le_refl _))
theorem y_hand_n (X : Cx Γ own cc nL D B rm) {H1 : Heap} {locs1 : List Loc} {ls : Array Slot} {q9 hp : Nat} {kl : Fin 4} (h2 : Pic D B w σ H1) (h3 : va_S (fun q => B ≤ q) (Gs Γ).heap H1 locs1) (hl : lv_has ls nL lv) (hk : (kl : Nat) < nL) (d0 : decode cc hp = .ok (.astore_n kl, 1)) (kk : V Γ D B w nL Q k n σ (hp + 1) [] []) : GW Γ H1 locs1 k n Q (F0 (Gm Γ) hp ls [.ref q9]) :=
  lv_astore_n X.1 X.2.1 d0 rfl hl hk rfl (fun ls' hl' => kk H1 locs1 ls' _ _ h2 h3 (lv_sub hl' [] rfl) (Nat.le_refl _) (Nat.le_refl _))
end LR9
