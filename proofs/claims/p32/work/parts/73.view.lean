/-! the law's state: a world, and the law's own arrays; what a piece of the law answers there -/
abbrev LA : Type := Nat → Nat → Int32
def CL (s : St) (w : WD) (A : LA) : Prop := CV s w ∧ ∀ k, 39 ≤ k → gA s k = A k
/-- o answers v, behind it the world is w, the arrays A, and there were at most hi dear calls -/
def RB {α : Type} (o : Option (α × St)) (v : α) (s : St) (hi : Nat) (w : WD) (A : LA) : Prop := ∃ s', o = some (v, s') ∧ CL s' w A ∧ ct s ≤ ct s' ∧ ct s' ≤ hi
theorem FXk {s s1 : St} {b : Nat} : FX [] [] s1 (kb s s1 b) := ⟨fun _ _ => rfl, fun _ _ => rfl, rfl, Nat.le_refl _, fun _ _ => rfl⟩
theorem CV.kbs {s s1 : St} {w : WD} {b : Nat} (H : CV s1 w) : CV (kb s s1 b) w := H.fx FXk H.1.2.2.2.2.2.2.2 H.2.2.2.2.2.2
theorem CL.of {s s' : St} {w w' : WD} {A : LA} (H : CL s w A) (h : CV s' w') (k : KA s s') : CL s' w' A := ⟨h, fun j hj => (k j hj).trans (H.2 j hj)⟩
theorem CL.kbs {s s1 : St} {w : WD} {A : LA} {b : Nat} (H : CL s1 w A) : CL (kb s s1 b) w A := ⟨H.1.kbs, H.2⟩
theorem CL.z {s : St} {w : WD} {A : LA} {n : Nat} (H : CL s w A) (h : sz s ≤ n) : CL (sz' s n) w A := ⟨H.1.z h, H.2⟩
theorem qc_i {ρ : Type} {Z : Nat} {s s1 : St} {f : Nat → Option (ρ × St)} {v : ρ} (h : f (sz s) = some (v, s1)) : qc Z s f = some (v, kb s s1 0) := by unfold qc; rw [h]
theorem qc_x {ρ : Type} {Z k : Nat} {s : St} {f : Nat → Option ((ρ ⊕ Nat) × St)} (h : ∀ z, f z = xz z s k) (hc : ct s < Z) : qc Z s f = some (.inr k, kb s (sz' s (sz s + 1)) 1) := by
  have e1 : (xz (sz s) s k : Option ((ρ ⊕ Nat) × St)) = none := if_neg (Nat.lt_irrefl _)
  have e2 : (xz (sz s + 64) s k : Option ((ρ ⊕ Nat) × St)) = some (.inr k, sz' s (sz s + 1)) := if_pos (by omega)
  unfold qc
  rw [h, h, e1, e2]
  show (if ct s < Z then _ else _) = _
  rw [if_pos hc]; rfl
theorem qd_i {ρ : Type} {Z : Nat} {s s1 : St} {f : Nat → Option (ρ × St)} {v : ρ} (h : f (sz s + 64) = some (v, s1)) (hc : ct s < Z) : qd Z s f = some (v, kb s s1 1) := by unfold qd; rw [if_pos hc, h]; rfl
section RBS
variable {α β : Type} {s : St} {w w1 w2 : WD} {A A1 A2 : LA} {hi h1 Z : Nat} {r : β}
theorem RB.ret (H : CL s w A) (h : ct s ≤ hi) : RB (some (r, s)) r s hi w A := ⟨s, rfl, H, Nat.le_refl _, h⟩
theorem RB.le {o : Option (β × St)} {hi' : Nat} (h : RB o r s hi w A) (hh : hi ≤ hi') : RB o r s hi' w A := by
  obtain ⟨s', a, b, c, d⟩ := h; exact ⟨s', a, b, c, Nat.le_trans d hh⟩
/-- a method of the law's own -/
theorem RB.cal {o : Option (α × St)} {v : α} {k : α × St → Option (β × St)} (h : RB o v s h1 w1 A1) (hZ : h1 ≤ Z) (kk : ∀ s1, CL s1 w1 A1 → ct s ≤ ct s1 → ct s1 ≤ h1 → RB (k (v, s1)) r s1 hi w2 A2) : RB (o.bind fun x => if ct s ≤ ct x.2 ∧ ct x.2 ≤ Z then k x else none) r s hi w2 A2 := by
  obtain ⟨s1, e, c, d1, d2⟩ := h
  obtain ⟨s2, e2, c2, d3, d4⟩ := kk s1 c d1 d2
  refine ⟨s2, ?_, c2, Nat.le_trans d1 d3, d4⟩
  rw [e, Option.bind_some, if_pos ⟨d1, Nat.le_trans d2 hZ⟩]; exact e2
/-- a call that only asks, without a birth -/
theorem RB.pl {f : Option (α × St)} {v : α} {s1 : St} {k : α × St → St → Option (β × St)} (h : f = some (v, s1)) (H : CL s1 w1 A1) (kk : ∀ s2, CL s2 w1 A1 → ct s2 = ct s → RB (k (v, s1) s2) r s2 hi w2 A2) : RB (f.bind fun x => lt (kb s x.2 0) fun s2 => k x s2) r s hi w2 A2 := by
  obtain ⟨s2, e2, c2, d3, d4⟩ := kk (kb s s1 0) H.kbs rfl
  refine ⟨s2, ?_, c2, d3, d4⟩
  rw [h]; exact e2
/-- a call that may throw, its answer taken -/
theorem RB.tk {o : Option ((α ⊕ Nat) × St)} {v : α} {k : (α ⊕ Nat) × St → α → Option (β × St)} (h : RB o (.inl v) s h1 w1 A1) (kk : ∀ s1, CL s1 w1 A1 → ct s ≤ ct s1 → ct s1 ≤ h1 → RB (k (.inl v, s1) v) r s1 hi w2 A2) : RB (o.bind fun x => (an x.1).bind fun y => k x y) r s hi w2 A2 := by
  obtain ⟨s1, e, c, d1, d2⟩ := h
  obtain ⟨s2, e2, c2, d3, d4⟩ := kk s1 c d1 d2
  exact ⟨s2, by rw [e]; exact e2, c2, Nat.le_trans d1 d3, d4⟩
/-- .. with a handler, and it doesn't -/
theorem RB.hok {o : Option ((α ⊕ Nat) × St)} {v : α} {k : (α ⊕ Nat) × St → α → Option (β × St)} {q : (α ⊕ Nat) × St → Nat → Option (β × St)} (h : RB o (.inl v) s h1 w1 A1) (kk : ∀ s1, CL s1 w1 A1 → ct s ≤ ct s1 → ct s1 ≤ h1 → RB (k (.inl v, s1) v) r s1 hi w2 A2) : RB (o.bind fun x => hnd x.1 (fun e => q x e) fun y => k x y) r s hi w2 A2 := by
  obtain ⟨s1, e, c, d1, d2⟩ := h
  obtain ⟨s2, e2, c2, d3, d4⟩ := kk s1 c d1 d2
  exact ⟨s2, by rw [e]; exact e2, c2, Nat.le_trans d1 d3, d4⟩
/-- .. and it does -/
theorem RB.hx {o : Option ((α ⊕ Nat) × St)} {m : Nat} {k : (α ⊕ Nat) × St → α → Option (β × St)} {q : (α ⊕ Nat) × St → Nat → Option (β × St)} (h : RB o (.inr m) s h1 w1 A1) (kk : ∀ s1, CL s1 w1 A1 → ct s ≤ ct s1 → ct s1 ≤ h1 → RB (q (.inr m, s1) m) r s1 hi w2 A2) : RB (o.bind fun x => hnd x.1 (fun e => q x e) fun y => k x y) r s hi w2 A2 := by
  obtain ⟨s1, e, c, d1, d2⟩ := h
  obtain ⟨s2, e2, c2, d3, d4⟩ := kk s1 c d1 d2
  exact ⟨s2, by rw [e]; exact e2, c2, Nat.le_trans d1 d3, d4⟩
/-- the three kinds of calls -/
theorem RB.c0 {f : Nat → Option (α × St)} {v : α} (H : CL s w A) (h : ∃ s', f (sz s) = some (v, s') ∧ CV s' w1 ∧ KA s s') : RB (qc Z s f) v s (ct s) w1 A := by
  obtain ⟨s', e, c, k⟩ := h
  exact ⟨kb s s' 0, qc_i e, (H.of c k).kbs, Nat.le_refl _, Nat.le_refl _⟩
theorem RB.cr {f : Nat → Option (α × St)} {v : α} (H : CL s w A) (h : f (sz s) = some (v, s)) : RB (qc Z s f) v s (ct s) w A := RB.c0 H ⟨s, h, H.1, KA.rf⟩
theorem RB.cx {f : Nat → Option ((α ⊕ Nat) × St)} {k : Nat} (H : CL s w A) (h : ∀ z, f z = xz z s k) (hc : ct s < Z) : RB (qc Z s f) (.inr k) s (ct s + 1) w A := ⟨_, qc_x h hc, (H.z (Nat.le_succ _)).kbs, Nat.le_succ _, Nat.le_refl _⟩
theorem RB.dd {f : Nat → Option (α × St)} {v : α} (H : CL s w A) (hc : ct s < Z) (h : ∃ s', f (sz s + 64) = some (v, s') ∧ CV s' w1 ∧ KA s s') : RB (qd Z s f) v s (ct s + 1) w1 A := by
  obtain ⟨s', e, c, k⟩ := h
  exact ⟨kb s s' 1, qd_i e hc, (H.of c k).kbs, Nat.le_succ _, Nat.le_refl _⟩
theorem RB.dx {f : Nat → Option ((α ⊕ Nat) × St)} {k : Nat} (H : CL s w A) (h : ∀ z, f z = xz z s k) (hc : ct s < Z) : RB (qd Z s f) (.inr k) s (ct s + 1) w A := RB.dd H hc ⟨sz' s (sz s + 1), by rw [h]; exact if_pos (by omega), H.1.z (Nat.le_succ _), KA.rf⟩
end RBS
/-- the same, of the world and the arrays behind it only what Φ says -/
def RPx {α : Type} (o : Option (α × St)) (v : α) (s : St) (hi : Nat) (Φ : WD → LA → Prop) : Prop := ∃ s' w A, o = some (v, s') ∧ CL s' w A ∧ Φ w A ∧ ct s ≤ ct s' ∧ ct s' ≤ hi
section RPXS
variable {α β : Type} {s : St} {w w1 w2 : WD} {A A1 A2 : LA} {hi h1 Z : Nat} {r : β} {Φ Φ1 : WD → LA → Prop}
theorem RB.rp {o : Option (β × St)} (h : RB o r s hi w A) (p : Φ w A) : RPx o r s hi Φ := by
  obtain ⟨s', a, b, c, d⟩ := h; exact ⟨s', w, A, a, b, p, c, d⟩
theorem RPx.ret (H : CL s w A) (p : Φ w A) (h : ct s ≤ hi) : RPx (some (r, s)) r s hi Φ := ⟨s, w, A, rfl, H, p, Nat.le_refl _, h⟩
theorem RPx.le {o : Option (β × St)} {hi' : Nat} (h : RPx o r s hi Φ) (hh : hi ≤ hi') : RPx o r s hi' Φ := by
  obtain ⟨s', w, A, a, b, p, c, d⟩ := h; exact ⟨s', w, A, a, b, p, c, Nat.le_trans d hh⟩
theorem RPx.to {o : Option (β × St)} (h : RPx o r s hi Φ) (p : ∀ w A, Φ w A → Φ1 w A) : RPx o r s hi Φ1 := by
  obtain ⟨s', w, A, a, b, q, c, d⟩ := h; exact ⟨s', w, A, a, b, p w A q, c, d⟩
theorem RPx.rb {o : Option (β × St)} (h : RPx o r s hi (fun w' A' => w' = w ∧ A' = A)) : RB o r s hi w A := by
  obtain ⟨s', w, A, a, b, ⟨rfl, rfl⟩, c, d⟩ := h; exact ⟨s', a, b, c, d⟩
theorem RPx.cal {o : Option (α × St)} {v : α} {k : α × St → Option (β × St)} (h : RB o v s h1 w1 A1) (hZ : h1 ≤ Z) (kk : ∀ s1, CL s1 w1 A1 → ct s ≤ ct s1 → ct s1 ≤ h1 → RPx (k (v, s1)) r s1 hi Φ) : RPx (o.bind fun x => if ct s ≤ ct x.2 ∧ ct x.2 ≤ Z then k x else none) r s hi Φ := by
  obtain ⟨s1, e, c, d1, d2⟩ := h
  obtain ⟨s2, w, A, e2, c2, p, d3, d4⟩ := kk s1 c d1 d2
  refine ⟨s2, w, A, ?_, c2, p, Nat.le_trans d1 d3, d4⟩
  rw [e, Option.bind_some, if_pos ⟨d1, Nat.le_trans d2 hZ⟩]; exact e2
theorem RPx.calP {o : Option (α × St)} {v : α} {k : α × St → Option (β × St)} (h : RPx o v s h1 Φ1) (hZ : h1 ≤ Z) (kk : ∀ s1 w1 A1, CL s1 w1 A1 → Φ1 w1 A1 → ct s ≤ ct s1 → ct s1 ≤ h1 → RPx (k (v, s1)) r s1 hi Φ) : RPx (o.bind fun x => if ct s ≤ ct x.2 ∧ ct x.2 ≤ Z then k x else none) r s hi Φ := by
  obtain ⟨s1, w1, A1, e, c, p1, d1, d2⟩ := h
  obtain ⟨s2, w, A, e2, c2, p, d3, d4⟩ := kk s1 w1 A1 c p1 d1 d2
  refine ⟨s2, w, A, ?_, c2, p, Nat.le_trans d1 d3, d4⟩
  rw [e, Option.bind_some, if_pos ⟨d1, Nat.le_trans d2 hZ⟩]; exact e2
theorem RPx.pl {f : Option (α × St)} {v : α} {s1 : St} {k : α × St → St → Option (β × St)} (h : f = some (v, s1)) (H : CL s1 w1 A1) (kk : ∀ s2, CL s2 w1 A1 → ct s2 = ct s → RPx (k (v, s1) s2) r s2 hi Φ) : RPx (f.bind fun x => lt (kb s x.2 0) fun s2 => k x s2) r s hi Φ := by
  obtain ⟨s2, w, A, e2, c2, p, d3, d4⟩ := kk (kb s s1 0) H.kbs rfl
  refine ⟨s2, w, A, ?_, c2, p, d3, d4⟩
  rw [h]; exact e2
theorem RPx.tk {o : Option ((α ⊕ Nat) × St)} {v : α} {k : (α ⊕ Nat) × St → α → Option (β × St)} (h : RB o (.inl v) s h1 w1 A1) (kk : ∀ s1, CL s1 w1 A1 → ct s ≤ ct s1 → ct s1 ≤ h1 → RPx (k (.inl v, s1) v) r s1 hi Φ) : RPx (o.bind fun x => (an x.1).bind fun y => k x y) r s hi Φ := by
  obtain ⟨s1, e, c, d1, d2⟩ := h
  obtain ⟨s2, w, A, e2, c2, p, d3, d4⟩ := kk s1 c d1 d2
  exact ⟨s2, w, A, by rw [e]; exact e2, c2, p, Nat.le_trans d1 d3, d4⟩
/-- a reading of the state alone, and none of it goes on -/
theorem RPx.mv {o : Option (β × St)} {s0 : St} (h : RPx o r s hi Φ) (e : ct s0 = ct s) : RPx o r s0 hi Φ := by
  obtain ⟨s', w, A, a, b, p, c, d⟩ := h; exact ⟨s', w, A, a, b, p, by omega, d⟩
end RPXS
