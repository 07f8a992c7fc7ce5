/-! the law's own methods: they call one of the class's and catch what it throws -/
def QW (D : DD) (B : Nat) (σ' : St) (r : Int32) : Array Value → State → Outcome → State → Prop := fun _ st o t => o = .returned (some (.int r)) ∧ (∃ n, sz σ' ≤ n ∧ Pic D B true (sz' σ' n) t.heap) ∧ va_F (fun q => B ≤ q) st t
/-- the contract of such a method: from σ it answers r and leaves σ', and perhaps some cells that nobody knows -/
def CW (y : MethodName) (cy : Cond) (fr lo : Nat) (as : Nat → List Value) (σ : St) (r : Int32) (σ' : St) : Prop :=
  ∀ (l : Launch) (D : DD) (B : Nat), l.stackTraces = false → vx_Met l y (cy :: WT) { frames := fr, cells := 64, slots := 768, locals := lo } (va_Pc (as B) (fun U => Pic D B true σ U.heap ∧ KX D B U)) (QW D B σ' r) (fun _ _ _ => False) 64 768 (fun q => B ≤ q)
abbrev QWx (Γ : Ga) (D : DD) (B : Nat) (σ' : St) (r : Int32) : State → Prop := vx_MQ (Gb Γ) (QW D B σ' r) (fun _ _ _ => False) (Ga' Γ) (Gs Γ) 64 768 (fun q => B ≤ q)
/-- what is fixed in such a walk beside Cx -/
def Xw (Γ : Ga) (B : Nat) (hh : List (Nat × Nat × Nat × Nat)) : Prop := Γ.2.1.stackTraces = false ∧ KE B (Gs Γ) ∧ (Gc Γ).exceptionTable.toList = tableOf hh ∧ (Gme Γ).sig.returnType = some .int
abbrev RW (fr lo : Nat) : Room := { frames := fr, cells := 64, slots := 768, locals := lo }
theorem CW.of {y : MethodName} {bytes : ByteArray} {maxL : Nat} {hh : List (Nat × Nat × Nat × Nat)} {fr lo : Nat} {as : Nat → List Value} {σ : St} {r : Int32} {σ' : St} (lv : Nat → List (Nat × Value))
    (hy : plainName y.cls = true) (hlv : ∀ B, lv_args 0 (as B) = lv B) (hln : ∀ B, (lg_sl (as B)).length ≤ maxL)
    (hV : ∀ (Γ : Ga) (D : DD) (B : Nat), Cx Γ y.cls bytes maxL D B (RW fr lo) → Xw Γ B hh → V Γ D B true maxL (QWx Γ D B σ' r) 0 0 σ 0 (lv B) []) :
    CW y (Cond.codeWith y bytes maxL (some .int) hh) fr lo as σ r σ' := by
  intro l D B hl0
  refine vx_ofWH (cc := bytes) (maxL := maxL) (ret := some .int) (hh := hh) hy rfl ?_
  intro p e s m args below meth c s₁ Bd hml hv
  obtain ⟨rfl, hP, hK, hE⟩ := hv
  have hts := atoms_spec (ws := Cond.codeWith y bytes maxL (some .int) hh :: WT) Bd.pre
  have hown : s.vm.findClass y.cls = some m.cls := findClass_of_methodNamed Bd.named
  have hl := lv_entry (as B) (n := maxL) (hln B)
  rw [lg_entry_eq]
  rw [hlv B] at hl
  have hB : B ≤ s.heap.size := by rw [hP.1]; omega
  exact hV (p, l, e, _, s, m, _, below, meth, c) D B ⟨Bd.exec, Bd.bytes, hml, hown, fun x hx => hts x (List.mem_cons_of_mem _ hx), hK, Bd.notSynchronized, hB, rfl⟩ ⟨hl0, hE, vx_table (x := y) Bd (hts _ List.mem_cons_self), Bd.returns⟩ s.heap [] _ 0 0 hP va_S.rf hl (Nat.le_refl _) (Nat.le_refl _)
section TW
variable {Γ : Ga} {D : DD} {B : Nat} {own : String} {cc : ByteArray} {nL fR lR : Nat} {hh : List (Nat × Nat × Nat × Nat)} {Q : State → Prop} {σ : St} {pc : Nat} {lv : List (Nat × Value)} {st : List Value}
theorem t_call (X : Cx Γ own cc nL D B (RW fR lR)) (Y : Xw Γ B hh) {idx maxL fr lo a : Nat} {C : String} {y : MethodName} {bytes : ByteArray} {ret : Option FieldType} {as : Nat → List Value} {out : Nat → Ou} {σ1 : St} {As : List Value} (hC : CX true y (Cond.code y bytes maxL ret) fr lo 64 768 as σ out σ1 64 768) (has : as B = .ref (B + a) :: As)
    (hml : Cond.methodLink own idx y ∈ WT) (hin : Cond.instanceMethod y ∈ WT) (hse : Cond.selects C y y ∈ WT) (hini : Cond.initialized C ∈ WT) (hco : Cond.code y bytes maxL ret ∈ WT) (hd : y.cls = C ∧ y.cls ≠ "java/lang/invoke/MethodHandle" ∧ y.cls ≠ "java/lang/invoke/VarHandle" ∧ (parseMethodDescriptor y.desc).map (fun d => d.parameters.length) = some As.length) (hrc : Rc D B true σ C a)
    (hR : fr + 1 ≤ fR ∧ 8 + (maxL + 11) + lo ≤ lR) (hrm : (st.map fun v => v.category).sum ≤ 8) (d : decode cc pc = .ok (.invokevirtual idx, 3)) {pre : List Value} (hpre : pre = As.reverse ++ .ref (B + a) :: st)
    (kk : ∀ v, out B = .inl v → V Γ D B true nL Q 64 768 σ1 (pc + 3) lv (v.toList ++ st))
    (kx : ∀ E, out B = .inr E → ∀ (H1 : Heap) (locs1 : List Loc) (ls : Array Slot) (n9 : Nat) (ce : Cell) (q9 : Addr), sz σ1 ≤ n9 → Pic D B true (sz' σ1 n9) H1 → va_S (fun q => B ≤ q) (Gs Γ).heap H1 locs1 → lv_has ls nL lv → H1[q9]? = some ce → ce.vm = .none → (Gs Γ).vm.findClass E = some ce.cls →
      vx_W Γ.1 Γ.2.1 Γ.2.2.1 Γ.2.2.2.1 Γ.2.2.2.2.1 Γ.2.2.2.2.2.1 Γ.2.2.2.2.2.2.1 Γ.2.2.2.2.2.2.2.1 Γ.2.2.2.2.2.2.2.2.1 Γ.2.2.2.2.2.2.2.2.2 H1 locs1 64 768 Q (F0 (Gm Γ) pc ls st) q9) : V Γ D B true nL Q 0 0 σ pc lv pre := by
  subst hpre
  exact fun H locs ls cs ss hP hS hl hk hn => by
    have hR9 := X.2.2.2.2.2.2.2.2
    obtain ⟨ci, N, T, fs, hcl, hat⟩ := hrc
    have e1 : cs = 0 := Nat.le_zero.mp hk
    have e2 : ss = 0 := Nat.le_zero.mp hn
    subst e1; subst e2
    refine w_callX hP hS (vz_runV (rc := 64) (rs := 768) (As := As) (rest := st) ⟨X.1, X.2.1, X.2.2.1, X.2.2.2.1, X.2.2.2.2.1⟩ (hC Γ.2.1 D B Y.1) (cwV As.length X.2.2.2.2.1 (WT_cons hml (WT_cons hin (WT_cons hse (WT_cons hini (WT_call hco))))) rfl rfl rfl hd ⟨by show fr + 1 ≤ (GR Γ).frames; rw [hR9]; exact hR.1, by show 8 + (maxL + 11) + lo ≤ (GR Γ).locals; rw [hR9]; exact hR.2⟩) ⟨blindX, recv X.2.2.2.2.2.1.1 hcl (hat H hP), fun U hU hW => ⟨by rw [has], by rw [hU]; exact hP, KK.moved hW X.2.2.2.2.2.1, KE.to hW Y.2.1 (by rw [hU]; exact hS)⟩⟩ rfl rfl hl.1 rfl (lv_room hrm) d ⟨by show 0 + 64 ≤ (GR Γ).cells; rw [hR9]; exact Nat.le_refl 64, by show 0 + 768 ≤ (GR Γ).slots; rw [hR9]; exact Nat.le_refl 768⟩) (fun v9 hv H1 locs1 hsz hP1 hS1 => ?_) (fun E hE H1 locs1 n9 ce q9 h1 h2 h3 h4 h5 h6 => ?_)
    · exact kk v9 hv H1 locs1 ls _ _ hP1 hS1 hl (Nat.le_refl _) (Nat.le_refl _)
    · exact kx E hE H1 locs1 ls n9 ce q9 h1 h2 h3 hl h4 h5 h6
/-- the end: a number -/
theorem t_ret (X : Cx Γ own cc nL D B (RW fR lR)) (Y : Xw Γ B hh) {σ' : St} {r : Int32} {H1 : Heap} {locs1 : List Loc} {ls : Array Slot} (hP : ∃ n, sz σ' ≤ n ∧ Pic D B true (sz' σ' n) H1) (hS : va_S (fun q => B ≤ q) (Gs Γ).heap H1 locs1) (d : decode cc pc = .ok (.ireturn, 1)) : GW Γ H1 locs1 64 768 (QWx Γ D B σ' r) (F0 (Gm Γ) pc ls [.int r]) :=
  vx_ret (W.iret X.1 X.2.1 Y.2.2.2 (fun t ht hW => ⟨rfl, by rw [ht]; exact hP, hS.F ht⟩) hS.2.2 d X.2.2.2.2.2.2.1)
theorem t_iret (X : Cx Γ own cc nL D B (RW fR lR)) (Y : Xw Γ B hh) {σ' : St} {x r : Int32} (hf : some (x, σ) = some (r, σ')) (d : decode cc pc = .ok (.ireturn, 1)) : V Γ D B true nL (QWx Γ D B σ' r) 64 768 σ pc lv [.int x] := by
  cases hf
  exact fun H locs ls cs ss hP hS hl hk hn => W.widen hk hn (t_ret X Y ⟨sz σ, Nat.le_refl _, hP⟩ hS d)
/-- a handler that answers a number: by its entry x behind the entries pre, that name other classes -/
theorem t_catch (X : Cx Γ own cc nL D B (RW fR lR)) (Y : Xw Γ B hh) {σ' : St} {r : Int32} {E : String} {H1 : Heap} {locs1 : List Loc} {ls : Array Slot} {n9 : Nat} {ce : Cell} {q9 : Addr} (h1 : sz σ' ≤ n9) (h2 : Pic D B true (sz' σ' n9) H1) (h3 : va_S (fun q => B ≤ q) (Gs Γ).heap H1 locs1) (h4 : H1[q9]? = some ce) (h5 : ce.vm = .none) (h6 : (Gs Γ).vm.findClass E = some ce.cls)
    (pre suf : List (Nat × Nat × Nat × Nat)) {sp ep hp ct : Nat} (hsplit : hh = pre ++ (sp, ep, hp, ct) :: suf) (hpass : ∀ z ∈ pre, z.2.2.2 ≠ 0 ∧ ∃ nm : String, Cond.classLink own z.2.2.2 nm ∈ WT ∧ (E, nm) ∈ NCs) (hx : covers ⟨sp, ep, hp, ct⟩ pc = true) (hct : ct ≠ 0) (hlink : Cond.classLink own ct E ∈ WT) (hcast : Cond.castable E E ∈ lw_tbl)
    (kk : GW Γ H1 locs1 64 768 (QWx Γ D B σ' r) (F0 (Gm Γ) hp ls [.ref q9])) :
    vx_W Γ.1 Γ.2.1 Γ.2.2.1 Γ.2.2.2.1 Γ.2.2.2.2.1 Γ.2.2.2.2.2.1 Γ.2.2.2.2.2.2.1 Γ.2.2.2.2.2.2.2.1 Γ.2.2.2.2.2.2.2.2.1 Γ.2.2.2.2.2.2.2.2.2 H1 locs1 64 768 (QWx Γ D B σ' r) (F0 (Gm Γ) pc ls st) q9 := by
  refine vx_catch (own := own) (name := E) (E := E) X.2.2.2.1 (tableOf pre) ⟨sp, ep, hp, ct⟩ (tableOf suf) (by rw [Y.2.2.1, hsplit]; simp [tableOf]) (fun z hz => ?_) hx hct (X.w hlink) (va_Nw.use rfl (Y.2.1.2.2.2.2.1 _ _ hcast)) h4 h5 h6 kk
  obtain ⟨z0, hz0, rfl⟩ := List.mem_map.mp hz
  obtain ⟨e1, nm, e2, e3⟩ := hpass z0 hz0
  exact Or.inr ⟨e1, nm, X.w e2, Y.2.1.2.2.2.2.2 _ e3⟩
/-- .. with its text: the exception laid away, a number, the end -/
theorem t_hand_n (X : Cx Γ own cc nL D B (RW fR lR)) (Y : Xw Γ B hh) {σ' : St} {r : Int32} {H1 : Heap} {locs1 : List Loc} {ls : Array Slot} {n9 q9 hp : Nat} {k : Fin 4} {i : Int} (hl : lv_has ls nL lv) (hk : (k : Nat) < nL) (h1 : sz σ' ≤ n9) (h2 : Pic D B true (sz' σ' n9) H1) (h3 : va_S (fun q => B ≤ q) (Gs Γ).heap H1 locs1)
    (d0 : decode cc hp = .ok (.astore_n k, 1)) (d1 : decode cc (hp + 1) = .ok (.iconst i, 1)) (hv : Int32.ofInt i = r) (d2 : decode cc (hp + 2) = .ok (.ireturn, 1)) : GW Γ H1 locs1 64 768 (QWx Γ D B σ' r) (F0 (Gm Γ) hp ls [.ref q9]) :=
  lv_astore_n X.1 X.2.1 d0 rfl hl hk rfl (fun ls' hl' => lv_iconst X.1 X.2.1 d1 hv (t_ret X Y ⟨n9, h1, h2⟩ h3 d2))
theorem t_hand (X : Cx Γ own cc nL D B (RW fR lR)) (Y : Xw Γ B hh) {σ' : St} {r : Int32} {H1 : Heap} {locs1 : List Loc} {ls : Array Slot} {n9 q9 hp k : Nat} {i : Int} (hl : lv_has ls nL lv) (hk : k < nL) (h1 : sz σ' ≤ n9) (h2 : Pic D B true (sz' σ' n9) H1) (h3 : va_S (fun q => B ≤ q) (Gs Γ).heap H1 locs1)
    (d0 : decode cc hp = .ok (.astore k, 2)) (d1 : decode cc (hp + 2) = .ok (.iconst i, 1)) (hv : Int32.ofInt i = r) (d2 : decode cc (hp + 3) = .ok (.ireturn, 1)) : GW Γ H1 locs1 64 768 (QWx Γ D B σ' r) (F0 (Gm Γ) hp ls [.ref q9]) :=
  lv_astore X.1 X.2.1 d0 hl hk rfl (fun ls' hl' => lv_iconst X.1 X.2.1 d1 hv (t_ret X Y ⟨n9, h1, h2⟩ h3 d2))
end TW
theorem dL_type_0 : decode cL_type 0 = .ok (.aload_n 2, 1) := by decide +kernel
theorem dL_type_1 : decode cL_type 1 = .ok (.iconst 0, 1) := by decide +kernel
theorem dL_type_2 : decode cL_type 2 = .ok (.aload_n 0, 1) := by decide +kernel
theorem dL_type_3 : decode cL_type 3 = .ok (.iload_n 1, 1) := by decide +kernel
theorem dL_type_4 : decode cL_type 4 = .ok (.invokevirtual 7, 3) := by decide +kernel
theorem dL_type_7 : decode cL_type 7 = .ok (.i2l, 1) := by decide +kernel
theorem dL_type_8 : decode cL_type 8 = .ok (.lastore, 1) := by decide +kernel
theorem dL_type_9 : decode cL_type 9 = .ok (.goto 9, 3) := by decide +kernel
theorem dL_type_12 : decode cL_type 12 = .ok (.astore_n 3, 1) := by decide +kernel
theorem dL_type_13 : decode cL_type 13 = .ok (.iconst 1, 1) := by decide +kernel
theorem dL_type_14 : decode cL_type 14 = .ok (.ireturn, 1) := by decide +kernel
theorem dL_type_15 : decode cL_type 15 = .ok (.astore_n 3, 1) := by decide +kernel
theorem dL_type_16 : decode cL_type 16 = .ok (.iconst 2, 1) := by decide +kernel
theorem dL_type_17 : decode cL_type 17 = .ok (.ireturn, 1) := by decide +kernel
theorem dL_type_18 : decode cL_type 18 = .ok (.iconst 0, 1) := by decide +kernel
theorem dL_type_19 : decode cL_type 19 = .ok (.ireturn, 1) := by decide +kernel
theorem dL_ask_0 : decode cL_ask 0 = .ok (.aload_n 3, 1) := by decide +kernel
theorem dL_ask_1 : decode cL_ask 1 = .ok (.iconst 0, 1) := by decide +kernel
theorem dL_ask_2 : decode cL_ask 2 = .ok (.aload_n 0, 1) := by decide +kernel
theorem dL_ask_3 : decode cL_ask 3 = .ok (.iload_n 1, 1) := by decide +kernel
theorem dL_ask_4 : decode cL_ask 4 = .ok (.iload_n 2, 1) := by decide +kernel
theorem dL_ask_5 : decode cL_ask 5 = .ok (.invokevirtual 17, 3) := by decide +kernel
theorem dL_ask_8 : decode cL_ask 8 = .ok (.lastore, 1) := by decide +kernel
theorem dL_ask_9 : decode cL_ask 9 = .ok (.goto 11, 3) := by decide +kernel
theorem dL_ask_12 : decode cL_ask 12 = .ok (.astore 4, 2) := by decide +kernel
theorem dL_ask_14 : decode cL_ask 14 = .ok (.iconst 1, 1) := by decide +kernel
theorem dL_ask_15 : decode cL_ask 15 = .ok (.ireturn, 1) := by decide +kernel
theorem dL_ask_16 : decode cL_ask 16 = .ok (.astore 4, 2) := by decide +kernel
theorem dL_ask_18 : decode cL_ask 18 = .ok (.iconst 2, 1) := by decide +kernel
theorem dL_ask_19 : decode cL_ask 19 = .ok (.ireturn, 1) := by decide +kernel
theorem dL_ask_20 : decode cL_ask 20 = .ok (.iconst 0, 1) := by decide +kernel
theorem dL_ask_21 : decode cL_ask 21 = .ok (.ireturn, 1) := by decide +kernel
theorem dL_askByCodes_0 : decode cL_askByCodes 0 = .ok (.aload_n 3, 1) := by decide +kernel
theorem dL_askByCodes_1 : decode cL_askByCodes 1 = .ok (.iconst 0, 1) := by decide +kernel
theorem dL_askByCodes_2 : decode cL_askByCodes 2 = .ok (.aload_n 0, 1) := by decide +kernel
theorem dL_askByCodes_3 : decode cL_askByCodes 3 = .ok (.iload_n 1, 1) := by decide +kernel
theorem dL_askByCodes_4 : decode cL_askByCodes 4 = .ok (.iload_n 2, 1) := by decide +kernel
theorem dL_askByCodes_5 : decode cL_askByCodes 5 = .ok (.invokevirtual 21, 3) := by decide +kernel
theorem dL_askByCodes_8 : decode cL_askByCodes 8 = .ok (.lastore, 1) := by decide +kernel
theorem dL_askByCodes_9 : decode cL_askByCodes 9 = .ok (.goto 11, 3) := by decide +kernel
theorem dL_askByCodes_12 : decode cL_askByCodes 12 = .ok (.astore 4, 2) := by decide +kernel
theorem dL_askByCodes_14 : decode cL_askByCodes 14 = .ok (.iconst 1, 1) := by decide +kernel
theorem dL_askByCodes_15 : decode cL_askByCodes 15 = .ok (.ireturn, 1) := by decide +kernel
theorem dL_askByCodes_16 : decode cL_askByCodes 16 = .ok (.astore 4, 2) := by decide +kernel
theorem dL_askByCodes_18 : decode cL_askByCodes 18 = .ok (.iconst 2, 1) := by decide +kernel
theorem dL_askByCodes_19 : decode cL_askByCodes 19 = .ok (.ireturn, 1) := by decide +kernel
theorem dL_askByCodes_20 : decode cL_askByCodes 20 = .ok (.iconst 0, 1) := by decide +kernel
theorem dL_askByCodes_21 : decode cL_askByCodes 21 = .ok (.ireturn, 1) := by decide +kernel
theorem dL_pass_0 : decode cL_pass 0 = .ok (.aload_n 2, 1) := by decide +kernel
theorem dL_pass_1 : decode cL_pass 1 = .ok (.iconst 0, 1) := by decide +kernel
theorem dL_pass_2 : decode cL_pass 2 = .ok (.aload_n 0, 1) := by decide +kernel
theorem dL_pass_3 : decode cL_pass 3 = .ok (.iload_n 1, 1) := by decide +kernel
theorem dL_pass_4 : decode cL_pass 4 = .ok (.invokevirtual 24, 3) := by decide +kernel
theorem dL_pass_7 : decode cL_pass 7 = .ok (.i2l, 1) := by decide +kernel
theorem dL_pass_8 : decode cL_pass 8 = .ok (.lastore, 1) := by decide +kernel
theorem dL_pass_9 : decode cL_pass 9 = .ok (.goto 9, 3) := by decide +kernel
theorem dL_pass_12 : decode cL_pass 12 = .ok (.astore_n 3, 1) := by decide +kernel
theorem dL_pass_13 : decode cL_pass 13 = .ok (.iconst 1, 1) := by decide +kernel
theorem dL_pass_14 : decode cL_pass 14 = .ok (.ireturn, 1) := by decide +kernel
theorem dL_pass_15 : decode cL_pass 15 = .ok (.astore_n 3, 1) := by decide +kernel
theorem dL_pass_16 : decode cL_pass 16 = .ok (.iconst 2, 1) := by decide +kernel
theorem dL_pass_17 : decode cL_pass 17 = .ok (.ireturn, 1) := by decide +kernel
theorem dL_pass_18 : decode cL_pass 18 = .ok (.iconst 0, 1) := by decide +kernel
theorem dL_pass_19 : decode cL_pass 19 = .ok (.ireturn, 1) := by decide +kernel
theorem dL_log_0 : decode cL_log 0 = .ok (.aload 5, 2) := by decide +kernel
theorem dL_log_2 : decode cL_log 2 = .ok (.iconst 0, 1) := by decide +kernel
theorem dL_log_3 : decode cL_log 3 = .ok (.aload_n 0, 1) := by decide +kernel
theorem dL_log_4 : decode cL_log 4 = .ok (.iload_n 1, 1) := by decide +kernel
theorem dL_log_5 : decode cL_log 5 = .ok (.iload_n 2, 1) := by decide +kernel
theorem dL_log_6 : decode cL_log 6 = .ok (.iload_n 3, 1) := by decide +kernel
theorem dL_log_7 : decode cL_log 7 = .ok (.iload 4, 2) := by decide +kernel
theorem dL_log_9 : decode cL_log 9 = .ok (.invokevirtual 28, 3) := by decide +kernel
theorem dL_log_12 : decode cL_log 12 = .ok (.i2l, 1) := by decide +kernel
theorem dL_log_13 : decode cL_log 13 = .ok (.lastore, 1) := by decide +kernel
theorem dL_log_14 : decode cL_log 14 = .ok (.goto 11, 3) := by decide +kernel
theorem dL_log_17 : decode cL_log 17 = .ok (.astore 6, 2) := by decide +kernel
theorem dL_log_19 : decode cL_log 19 = .ok (.iconst 1, 1) := by decide +kernel
theorem dL_log_20 : decode cL_log 20 = .ok (.ireturn, 1) := by decide +kernel
theorem dL_log_21 : decode cL_log 21 = .ok (.astore 6, 2) := by decide +kernel
theorem dL_log_23 : decode cL_log 23 = .ok (.iconst 2, 1) := by decide +kernel
theorem dL_log_24 : decode cL_log 24 = .ok (.ireturn, 1) := by decide +kernel
theorem dL_log_25 : decode cL_log 25 = .ok (.iconst 0, 1) := by decide +kernel
theorem dL_log_26 : decode cL_log 26 = .ok (.ireturn, 1) := by decide +kernel
theorem dL_addPerson_0 : decode cL_addPerson 0 = .ok (.aload_n 1, 1) := by decide +kernel
theorem dL_addPerson_1 : decode cL_addPerson 1 = .ok (.iconst 0, 1) := by decide +kernel
theorem dL_addPerson_2 : decode cL_addPerson 2 = .ok (.aload_n 0, 1) := by decide +kernel
theorem dL_addPerson_3 : decode cL_addPerson 3 = .ok (.invokevirtual 32, 3) := by decide +kernel
theorem dL_addPerson_6 : decode cL_addPerson 6 = .ok (.i2l, 1) := by decide +kernel
theorem dL_addPerson_7 : decode cL_addPerson 7 = .ok (.lastore, 1) := by decide +kernel
theorem dL_addPerson_8 : decode cL_addPerson 8 = .ok (.goto 6, 3) := by decide +kernel
theorem dL_addPerson_11 : decode cL_addPerson 11 = .ok (.astore_n 2, 1) := by decide +kernel
theorem dL_addPerson_12 : decode cL_addPerson 12 = .ok (.iconst 1, 1) := by decide +kernel
theorem dL_addPerson_13 : decode cL_addPerson 13 = .ok (.ireturn, 1) := by decide +kernel
theorem dL_addPerson_14 : decode cL_addPerson 14 = .ok (.iconst 0, 1) := by decide +kernel
theorem dL_addPerson_15 : decode cL_addPerson 15 = .ok (.ireturn, 1) := by decide +kernel
theorem dL_off_0 : decode cL_off 0 = .ok (.aload_n 3, 1) := by decide +kernel
theorem dL_off_1 : decode cL_off 1 = .ok (.iconst 0, 1) := by decide +kernel
theorem dL_off_2 : decode cL_off 2 = .ok (.aload_n 0, 1) := by decide +kernel
theorem dL_off_3 : decode cL_off 3 = .ok (.iload_n 1, 1) := by decide +kernel
theorem dL_off_4 : decode cL_off 4 = .ok (.iload_n 2, 1) := by decide +kernel
theorem dL_off_5 : decode cL_off 5 = .ok (.invokevirtual 36, 3) := by decide +kernel
theorem dL_off_8 : decode cL_off 8 = .ok (.ifCond .eq 7, 3) := by decide +kernel
theorem dL_off_11 : decode cL_off 11 = .ok (.lconst 1, 1) := by decide +kernel
theorem dL_off_12 : decode cL_off 12 = .ok (.goto 4, 3) := by decide +kernel
theorem dL_off_15 : decode cL_off 15 = .ok (.lconst 0, 1) := by decide +kernel
theorem dL_off_16 : decode cL_off 16 = .ok (.lastore, 1) := by decide +kernel
theorem dL_off_17 : decode cL_off 17 = .ok (.goto 11, 3) := by decide +kernel
theorem dL_off_20 : decode cL_off 20 = .ok (.astore 4, 2) := by decide +kernel
theorem dL_off_22 : decode cL_off 22 = .ok (.iconst 1, 1) := by decide +kernel
theorem dL_off_23 : decode cL_off 23 = .ok (.ireturn, 1) := by decide +kernel
theorem dL_off_24 : decode cL_off 24 = .ok (.astore 4, 2) := by decide +kernel
theorem dL_off_26 : decode cL_off 26 = .ok (.iconst 2, 1) := by decide +kernel
theorem dL_off_27 : decode cL_off 27 = .ok (.ireturn, 1) := by decide +kernel
theorem dL_off_28 : decode cL_off 28 = .ok (.iconst 0, 1) := by decide +kernel
theorem dL_off_29 : decode cL_off 29 = .ok (.ireturn, 1) := by decide +kernel
theorem dL_swap_0 : decode cL_swap 0 = .ok (.aload_n 0, 1) := by decide +kernel
theorem dL_swap_1 : decode cL_swap 1 = .ok (.iload_n 1, 1) := by decide +kernel
theorem dL_swap_2 : decode cL_swap 2 = .ok (.iload_n 2, 1) := by decide +kernel
theorem dL_swap_3 : decode cL_swap 3 = .ok (.invokevirtual 42, 3) := by decide +kernel
theorem dL_swap_6 : decode cL_swap 6 = .ok (.goto 9, 3) := by decide +kernel
theorem dL_swap_9 : decode cL_swap 9 = .ok (.astore_n 3, 1) := by decide +kernel
theorem dL_swap_10 : decode cL_swap 10 = .ok (.iconst 1, 1) := by decide +kernel
theorem dL_swap_11 : decode cL_swap 11 = .ok (.ireturn, 1) := by decide +kernel
theorem dL_swap_12 : decode cL_swap 12 = .ok (.astore_n 3, 1) := by decide +kernel
theorem dL_swap_13 : decode cL_swap 13 = .ok (.iconst 2, 1) := by decide +kernel
theorem dL_swap_14 : decode cL_swap 14 = .ok (.ireturn, 1) := by decide +kernel
theorem dL_swap_15 : decode cL_swap 15 = .ok (.iconst 0, 1) := by decide +kernel
theorem dL_swap_16 : decode cL_swap 16 = .ok (.ireturn, 1) := by decide +kernel
theorem dL_planned_0 : decode cL_planned 0 = .ok (.aload_n 2, 1) := by decide +kernel
theorem dL_planned_1 : decode cL_planned 1 = .ok (.iconst 0, 1) := by decide +kernel
theorem dL_planned_2 : decode cL_planned 2 = .ok (.aload_n 0, 1) := by decide +kernel
theorem dL_planned_3 : decode cL_planned 3 = .ok (.iload_n 1, 1) := by decide +kernel
theorem dL_planned_4 : decode cL_planned 4 = .ok (.invokevirtual 46, 3) := by decide +kernel
theorem dL_planned_7 : decode cL_planned 7 = .ok (.i2l, 1) := by decide +kernel
theorem dL_planned_8 : decode cL_planned 8 = .ok (.lastore, 1) := by decide +kernel
theorem dL_planned_9 : decode cL_planned 9 = .ok (.goto 6, 3) := by decide +kernel
theorem dL_planned_12 : decode cL_planned 12 = .ok (.astore_n 3, 1) := by decide +kernel
theorem dL_planned_13 : decode cL_planned 13 = .ok (.iconst 1, 1) := by decide +kernel
theorem dL_planned_14 : decode cL_planned 14 = .ok (.ireturn, 1) := by decide +kernel
theorem dL_planned_15 : decode cL_planned 15 = .ok (.iconst 0, 1) := by decide +kernel
theorem dL_planned_16 : decode cL_planned 16 = .ok (.ireturn, 1) := by decide +kernel
theorem dL_holder_0 : decode cL_holder 0 = .ok (.aload_n 2, 1) := by decide +kernel
theorem dL_holder_1 : decode cL_holder 1 = .ok (.iconst 0, 1) := by decide +kernel
theorem dL_holder_2 : decode cL_holder 2 = .ok (.aload_n 0, 1) := by decide +kernel
theorem dL_holder_3 : decode cL_holder 3 = .ok (.iload_n 1, 1) := by decide +kernel
theorem dL_holder_4 : decode cL_holder 4 = .ok (.invokevirtual 49, 3) := by decide +kernel
theorem dL_holder_7 : decode cL_holder 7 = .ok (.i2l, 1) := by decide +kernel
theorem dL_holder_8 : decode cL_holder 8 = .ok (.lastore, 1) := by decide +kernel
theorem dL_holder_9 : decode cL_holder 9 = .ok (.goto 6, 3) := by decide +kernel
theorem dL_holder_12 : decode cL_holder 12 = .ok (.astore_n 3, 1) := by decide +kernel
theorem dL_holder_13 : decode cL_holder 13 = .ok (.iconst 1, 1) := by decide +kernel
theorem dL_holder_14 : decode cL_holder 14 = .ok (.ireturn, 1) := by decide +kernel
theorem dL_holder_15 : decode cL_holder 15 = .ok (.iconst 0, 1) := by decide +kernel
theorem dL_holder_16 : decode cL_holder 16 = .ok (.ireturn, 1) := by decide +kernel
theorem dL_nights_0 : decode cL_nights 0 = .ok (.aload_n 2, 1) := by decide +kernel
theorem dL_nights_1 : decode cL_nights 1 = .ok (.iconst 0, 1) := by decide +kernel
theorem dL_nights_2 : decode cL_nights 2 = .ok (.aload_n 0, 1) := by decide +kernel
theorem dL_nights_3 : decode cL_nights 3 = .ok (.iload_n 1, 1) := by decide +kernel
theorem dL_nights_4 : decode cL_nights 4 = .ok (.invokevirtual 52, 3) := by decide +kernel
theorem dL_nights_7 : decode cL_nights 7 = .ok (.i2l, 1) := by decide +kernel
theorem dL_nights_8 : decode cL_nights 8 = .ok (.lastore, 1) := by decide +kernel
theorem dL_nights_9 : decode cL_nights 9 = .ok (.goto 6, 3) := by decide +kernel
theorem dL_nights_12 : decode cL_nights 12 = .ok (.astore_n 3, 1) := by decide +kernel
theorem dL_nights_13 : decode cL_nights 13 = .ok (.iconst 1, 1) := by decide +kernel
theorem dL_nights_14 : decode cL_nights 14 = .ok (.ireturn, 1) := by decide +kernel
theorem dL_nights_15 : decode cL_nights 15 = .ok (.iconst 0, 1) := by decide +kernel
theorem dL_nights_16 : decode cL_nights 16 = .ok (.ireturn, 1) := by decide +kernel
theorem dL_owes_0 : decode cL_owes 0 = .ok (.aload_n 3, 1) := by decide +kernel
theorem dL_owes_1 : decode cL_owes 1 = .ok (.iconst 0, 1) := by decide +kernel
theorem dL_owes_2 : decode cL_owes 2 = .ok (.aload_n 0, 1) := by decide +kernel
theorem dL_owes_3 : decode cL_owes 3 = .ok (.iload_n 1, 1) := by decide +kernel
theorem dL_owes_4 : decode cL_owes 4 = .ok (.iload_n 2, 1) := by decide +kernel
theorem dL_owes_5 : decode cL_owes 5 = .ok (.invokevirtual 55, 3) := by decide +kernel
theorem dL_owes_8 : decode cL_owes 8 = .ok (.i2l, 1) := by decide +kernel
theorem dL_owes_9 : decode cL_owes 9 = .ok (.lastore, 1) := by decide +kernel
theorem dL_owes_10 : decode cL_owes 10 = .ok (.goto 7, 3) := by decide +kernel
theorem dL_owes_13 : decode cL_owes 13 = .ok (.astore 4, 2) := by decide +kernel
theorem dL_owes_15 : decode cL_owes 15 = .ok (.iconst 1, 1) := by decide +kernel
theorem dL_owes_16 : decode cL_owes 16 = .ok (.ireturn, 1) := by decide +kernel
theorem dL_owes_17 : decode cL_owes 17 = .ok (.iconst 0, 1) := by decide +kernel
theorem dL_owes_18 : decode cL_owes 18 = .ok (.ireturn, 1) := by decide +kernel
theorem dL_addRule_0 : decode cL_addRule 0 = .ok (.aload 4, 2) := by decide +kernel
theorem dL_addRule_2 : decode cL_addRule 2 = .ok (.iconst 0, 1) := by decide +kernel
theorem dL_addRule_3 : decode cL_addRule 3 = .ok (.aload_n 0, 1) := by decide +kernel
theorem dL_addRule_4 : decode cL_addRule 4 = .ok (.iload_n 1, 1) := by decide +kernel
theorem dL_addRule_5 : decode cL_addRule 5 = .ok (.iload_n 2, 1) := by decide +kernel
theorem dL_addRule_6 : decode cL_addRule 6 = .ok (.iload_n 3, 1) := by decide +kernel
theorem dL_addRule_7 : decode cL_addRule 7 = .ok (.invokevirtual 59, 3) := by decide +kernel
theorem dL_addRule_10 : decode cL_addRule 10 = .ok (.i2l, 1) := by decide +kernel
theorem dL_addRule_11 : decode cL_addRule 11 = .ok (.lastore, 1) := by decide +kernel
theorem dL_addRule_12 : decode cL_addRule 12 = .ok (.goto 15, 3) := by decide +kernel
theorem dL_addRule_15 : decode cL_addRule 15 = .ok (.astore 5, 2) := by decide +kernel
theorem dL_addRule_17 : decode cL_addRule 17 = .ok (.iconst 1, 1) := by decide +kernel
theorem dL_addRule_18 : decode cL_addRule 18 = .ok (.ireturn, 1) := by decide +kernel
theorem dL_addRule_19 : decode cL_addRule 19 = .ok (.astore 5, 2) := by decide +kernel
theorem dL_addRule_21 : decode cL_addRule 21 = .ok (.iconst 2, 1) := by decide +kernel
theorem dL_addRule_22 : decode cL_addRule 22 = .ok (.ireturn, 1) := by decide +kernel
theorem dL_addRule_23 : decode cL_addRule 23 = .ok (.astore 5, 2) := by decide +kernel
theorem dL_addRule_25 : decode cL_addRule 25 = .ok (.iconst 3, 1) := by decide +kernel
theorem dL_addRule_26 : decode cL_addRule 26 = .ok (.ireturn, 1) := by decide +kernel
theorem dL_addRule_27 : decode cL_addRule 27 = .ok (.iconst 0, 1) := by decide +kernel
theorem dL_addRule_28 : decode cL_addRule 28 = .ok (.ireturn, 1) := by decide +kernel
theorem dL_drop_0 : decode cL_drop 0 = .ok (.aload_n 2, 1) := by decide +kernel
theorem dL_drop_1 : decode cL_drop 1 = .ok (.iconst 0, 1) := by decide +kernel
theorem dL_drop_2 : decode cL_drop 2 = .ok (.aload_n 0, 1) := by decide +kernel
theorem dL_drop_3 : decode cL_drop 3 = .ok (.iload_n 1, 1) := by decide +kernel
theorem dL_drop_4 : decode cL_drop 4 = .ok (.invokevirtual 63, 3) := by decide +kernel
theorem dL_drop_7 : decode cL_drop 7 = .ok (.i2l, 1) := by decide +kernel
theorem dL_drop_8 : decode cL_drop 8 = .ok (.lastore, 1) := by decide +kernel
theorem dL_drop_9 : decode cL_drop 9 = .ok (.goto 9, 3) := by decide +kernel
theorem dL_drop_12 : decode cL_drop 12 = .ok (.astore_n 3, 1) := by decide +kernel
theorem dL_drop_13 : decode cL_drop 13 = .ok (.iconst 1, 1) := by decide +kernel
theorem dL_drop_14 : decode cL_drop 14 = .ok (.ireturn, 1) := by decide +kernel
theorem dL_drop_15 : decode cL_drop 15 = .ok (.astore_n 3, 1) := by decide +kernel
theorem dL_drop_16 : decode cL_drop 16 = .ok (.iconst 2, 1) := by decide +kernel
theorem dL_drop_17 : decode cL_drop 17 = .ok (.ireturn, 1) := by decide +kernel
theorem dL_drop_18 : decode cL_drop 18 = .ok (.iconst 0, 1) := by decide +kernel
theorem dL_drop_19 : decode cL_drop 19 = .ok (.ireturn, 1) := by decide +kernel
theorem dL_silence_0 : decode cL_silence 0 = .ok (.aload 4, 2) := by decide +kernel
theorem dL_silence_2 : decode cL_silence 2 = .ok (.iconst 0, 1) := by decide +kernel
theorem dL_silence_3 : decode cL_silence 3 = .ok (.aload_n 0, 1) := by decide +kernel
theorem dL_silence_4 : decode cL_silence 4 = .ok (.iload_n 1, 1) := by decide +kernel
theorem dL_silence_5 : decode cL_silence 5 = .ok (.iload_n 2, 1) := by decide +kernel
theorem dL_silence_6 : decode cL_silence 6 = .ok (.iload_n 3, 1) := by decide +kernel
theorem dL_silence_7 : decode cL_silence 7 = .ok (.invokevirtual 66, 3) := by decide +kernel
theorem dL_silence_10 : decode cL_silence 10 = .ok (.i2l, 1) := by decide +kernel
theorem dL_silence_11 : decode cL_silence 11 = .ok (.lastore, 1) := by decide +kernel
theorem dL_silence_12 : decode cL_silence 12 = .ok (.goto 15, 3) := by decide +kernel
theorem dL_silence_15 : decode cL_silence 15 = .ok (.astore 5, 2) := by decide +kernel
theorem dL_silence_17 : decode cL_silence 17 = .ok (.iconst 1, 1) := by decide +kernel
theorem dL_silence_18 : decode cL_silence 18 = .ok (.ireturn, 1) := by decide +kernel
theorem dL_silence_19 : decode cL_silence 19 = .ok (.astore 5, 2) := by decide +kernel
theorem dL_silence_21 : decode cL_silence 21 = .ok (.iconst 2, 1) := by decide +kernel
theorem dL_silence_22 : decode cL_silence 22 = .ok (.ireturn, 1) := by decide +kernel
theorem dL_silence_23 : decode cL_silence 23 = .ok (.astore 5, 2) := by decide +kernel
theorem dL_silence_25 : decode cL_silence 25 = .ok (.iconst 3, 1) := by decide +kernel
theorem dL_silence_26 : decode cL_silence 26 = .ok (.ireturn, 1) := by decide +kernel
theorem dL_silence_27 : decode cL_silence 27 = .ok (.iconst 0, 1) := by decide +kernel
theorem dL_silence_28 : decode cL_silence 28 = .ok (.ireturn, 1) := by decide +kernel
theorem dL_inWindow_0 : decode cL_inWindow 0 = .ok (.aload_n 2, 1) := by decide +kernel
theorem dL_inWindow_1 : decode cL_inWindow 1 = .ok (.iconst 0, 1) := by decide +kernel
theorem dL_inWindow_2 : decode cL_inWindow 2 = .ok (.aload_n 0, 1) := by decide +kernel
theorem dL_inWindow_3 : decode cL_inWindow 3 = .ok (.iload_n 1, 1) := by decide +kernel
theorem dL_inWindow_4 : decode cL_inWindow 4 = .ok (.invokevirtual 69, 3) := by decide +kernel
theorem dL_inWindow_7 : decode cL_inWindow 7 = .ok (.i2l, 1) := by decide +kernel
theorem dL_inWindow_8 : decode cL_inWindow 8 = .ok (.lastore, 1) := by decide +kernel
theorem dL_inWindow_9 : decode cL_inWindow 9 = .ok (.goto 6, 3) := by decide +kernel
theorem dL_inWindow_12 : decode cL_inWindow 12 = .ok (.astore_n 3, 1) := by decide +kernel
theorem dL_inWindow_13 : decode cL_inWindow 13 = .ok (.iconst 1, 1) := by decide +kernel
theorem dL_inWindow_14 : decode cL_inWindow 14 = .ok (.ireturn, 1) := by decide +kernel
theorem dL_inWindow_15 : decode cL_inWindow 15 = .ok (.iconst 0, 1) := by decide +kernel
theorem dL_inWindow_16 : decode cL_inWindow 16 = .ok (.ireturn, 1) := by decide +kernel
theorem dL_rises_0 : decode cL_rises 0 = .ok (.aload_n 2, 1) := by decide +kernel
theorem dL_rises_1 : decode cL_rises 1 = .ok (.iconst 0, 1) := by decide +kernel
theorem dL_rises_2 : decode cL_rises 2 = .ok (.aload_n 0, 1) := by decide +kernel
theorem dL_rises_3 : decode cL_rises 3 = .ok (.iload_n 1, 1) := by decide +kernel
theorem dL_rises_4 : decode cL_rises 4 = .ok (.invokevirtual 72, 3) := by decide +kernel
theorem dL_rises_7 : decode cL_rises 7 = .ok (.i2l, 1) := by decide +kernel
theorem dL_rises_8 : decode cL_rises 8 = .ok (.lastore, 1) := by decide +kernel
theorem dL_rises_9 : decode cL_rises 9 = .ok (.goto 6, 3) := by decide +kernel
theorem dL_rises_12 : decode cL_rises 12 = .ok (.astore_n 3, 1) := by decide +kernel
theorem dL_rises_13 : decode cL_rises 13 = .ok (.iconst 1, 1) := by decide +kernel
theorem dL_rises_14 : decode cL_rises 14 = .ok (.ireturn, 1) := by decide +kernel
theorem dL_rises_15 : decode cL_rises 15 = .ok (.iconst 0, 1) := by decide +kernel
theorem dL_rises_16 : decode cL_rises 16 = .ok (.ireturn, 1) := by decide +kernel
theorem dL_risesAnew_0 : decode cL_risesAnew 0 = .ok (.aload_n 2, 1) := by decide +kernel
theorem dL_risesAnew_1 : decode cL_risesAnew 1 = .ok (.iconst 0, 1) := by decide +kernel
theorem dL_risesAnew_2 : decode cL_risesAnew 2 = .ok (.aload_n 0, 1) := by decide +kernel
theorem dL_risesAnew_3 : decode cL_risesAnew 3 = .ok (.iload_n 1, 1) := by decide +kernel
theorem dL_risesAnew_4 : decode cL_risesAnew 4 = .ok (.invokevirtual 75, 3) := by decide +kernel
theorem dL_risesAnew_7 : decode cL_risesAnew 7 = .ok (.i2l, 1) := by decide +kernel
theorem dL_risesAnew_8 : decode cL_risesAnew 8 = .ok (.lastore, 1) := by decide +kernel
theorem dL_risesAnew_9 : decode cL_risesAnew 9 = .ok (.goto 6, 3) := by decide +kernel
theorem dL_risesAnew_12 : decode cL_risesAnew 12 = .ok (.astore_n 3, 1) := by decide +kernel
theorem dL_risesAnew_13 : decode cL_risesAnew 13 = .ok (.iconst 1, 1) := by decide +kernel
theorem dL_risesAnew_14 : decode cL_risesAnew 14 = .ok (.ireturn, 1) := by decide +kernel
theorem dL_risesAnew_15 : decode cL_risesAnew 15 = .ok (.iconst 0, 1) := by decide +kernel
theorem dL_risesAnew_16 : decode cL_risesAnew 16 = .ok (.ireturn, 1) := by decide +kernel
theorem dL_alarm_0 : decode cL_alarm 0 = .ok (.aload_n 2, 1) := by decide +kernel
theorem dL_alarm_1 : decode cL_alarm 1 = .ok (.iconst 0, 1) := by decide +kernel
theorem dL_alarm_2 : decode cL_alarm 2 = .ok (.aload_n 0, 1) := by decide +kernel
theorem dL_alarm_3 : decode cL_alarm 3 = .ok (.iload_n 1, 1) := by decide +kernel
theorem dL_alarm_4 : decode cL_alarm 4 = .ok (.invokevirtual 78, 3) := by decide +kernel
theorem dL_alarm_7 : decode cL_alarm 7 = .ok (.i2l, 1) := by decide +kernel
theorem dL_alarm_8 : decode cL_alarm 8 = .ok (.lastore, 1) := by decide +kernel
theorem dL_alarm_9 : decode cL_alarm 9 = .ok (.goto 6, 3) := by decide +kernel
theorem dL_alarm_12 : decode cL_alarm 12 = .ok (.astore_n 3, 1) := by decide +kernel
theorem dL_alarm_13 : decode cL_alarm 13 = .ok (.iconst 1, 1) := by decide +kernel
theorem dL_alarm_14 : decode cL_alarm 14 = .ok (.ireturn, 1) := by decide +kernel
theorem dL_alarm_15 : decode cL_alarm 15 = .ok (.iconst 0, 1) := by decide +kernel
theorem dL_alarm_16 : decode cL_alarm 16 = .ok (.ireturn, 1) := by decide +kernel
theorem dL_woken_0 : decode cL_woken 0 = .ok (.aload_n 2, 1) := by decide +kernel
theorem dL_woken_1 : decode cL_woken 1 = .ok (.iconst 0, 1) := by decide +kernel
theorem dL_woken_2 : decode cL_woken 2 = .ok (.aload_n 0, 1) := by decide +kernel
theorem dL_woken_3 : decode cL_woken 3 = .ok (.iload_n 1, 1) := by decide +kernel
theorem dL_woken_4 : decode cL_woken 4 = .ok (.invokevirtual 81, 3) := by decide +kernel
theorem dL_woken_7 : decode cL_woken 7 = .ok (.i2l, 1) := by decide +kernel
theorem dL_woken_8 : decode cL_woken 8 = .ok (.lastore, 1) := by decide +kernel
theorem dL_woken_9 : decode cL_woken 9 = .ok (.goto 6, 3) := by decide +kernel
theorem dL_woken_12 : decode cL_woken 12 = .ok (.astore_n 3, 1) := by decide +kernel
theorem dL_woken_13 : decode cL_woken 13 = .ok (.iconst 1, 1) := by decide +kernel
theorem dL_woken_14 : decode cL_woken 14 = .ok (.ireturn, 1) := by decide +kernel
theorem dL_woken_15 : decode cL_woken 15 = .ok (.iconst 0, 1) := by decide +kernel
theorem dL_woken_16 : decode cL_woken 16 = .ok (.ireturn, 1) := by decide +kernel
theorem dL_wokenAt_0 : decode cL_wokenAt 0 = .ok (.aload_n 2, 1) := by decide +kernel
theorem dL_wokenAt_1 : decode cL_wokenAt 1 = .ok (.iconst 0, 1) := by decide +kernel
theorem dL_wokenAt_2 : decode cL_wokenAt 2 = .ok (.aload_n 0, 1) := by decide +kernel
theorem dL_wokenAt_3 : decode cL_wokenAt 3 = .ok (.iload_n 1, 1) := by decide +kernel
theorem dL_wokenAt_4 : decode cL_wokenAt 4 = .ok (.invokevirtual 84, 3) := by decide +kernel
theorem dL_wokenAt_7 : decode cL_wokenAt 7 = .ok (.i2l, 1) := by decide +kernel
theorem dL_wokenAt_8 : decode cL_wokenAt 8 = .ok (.lastore, 1) := by decide +kernel
theorem dL_wokenAt_9 : decode cL_wokenAt 9 = .ok (.goto 9, 3) := by decide +kernel
theorem dL_wokenAt_12 : decode cL_wokenAt 12 = .ok (.astore_n 3, 1) := by decide +kernel
theorem dL_wokenAt_13 : decode cL_wokenAt 13 = .ok (.iconst 1, 1) := by decide +kernel
theorem dL_wokenAt_14 : decode cL_wokenAt 14 = .ok (.ireturn, 1) := by decide +kernel
theorem dL_wokenAt_15 : decode cL_wokenAt 15 = .ok (.astore_n 3, 1) := by decide +kernel
theorem dL_wokenAt_16 : decode cL_wokenAt 16 = .ok (.iconst 2, 1) := by decide +kernel
theorem dL_wokenAt_17 : decode cL_wokenAt 17 = .ok (.ireturn, 1) := by decide +kernel
theorem dL_wokenAt_18 : decode cL_wokenAt 18 = .ok (.iconst 0, 1) := by decide +kernel
theorem dL_wokenAt_19 : decode cL_wokenAt 19 = .ok (.ireturn, 1) := by decide +kernel
theorem dL_answer_0 : decode cL_answer 0 = .ok (.aload_n 3, 1) := by decide +kernel
theorem dL_answer_1 : decode cL_answer 1 = .ok (.iconst 0, 1) := by decide +kernel
theorem dL_answer_2 : decode cL_answer 2 = .ok (.aload_n 0, 1) := by decide +kernel
theorem dL_answer_3 : decode cL_answer 3 = .ok (.iload_n 1, 1) := by decide +kernel
theorem dL_answer_4 : decode cL_answer 4 = .ok (.iload_n 2, 1) := by decide +kernel
theorem dL_answer_5 : decode cL_answer 5 = .ok (.invokevirtual 89, 3) := by decide +kernel
theorem dL_answer_8 : decode cL_answer 8 = .ok (.i2l, 1) := by decide +kernel
theorem dL_answer_9 : decode cL_answer 9 = .ok (.lastore, 1) := by decide +kernel
theorem dL_answer_10 : decode cL_answer 10 = .ok (.goto 11, 3) := by decide +kernel
theorem dL_answer_13 : decode cL_answer 13 = .ok (.astore 4, 2) := by decide +kernel
theorem dL_answer_15 : decode cL_answer 15 = .ok (.iconst 1, 1) := by decide +kernel
theorem dL_answer_16 : decode cL_answer 16 = .ok (.ireturn, 1) := by decide +kernel
theorem dL_answer_17 : decode cL_answer 17 = .ok (.astore 4, 2) := by decide +kernel
theorem dL_answer_19 : decode cL_answer 19 = .ok (.iconst 2, 1) := by decide +kernel
theorem dL_answer_20 : decode cL_answer 20 = .ok (.ireturn, 1) := by decide +kernel
theorem dL_answer_21 : decode cL_answer 21 = .ok (.iconst 0, 1) := by decide +kernel
theorem dL_answer_22 : decode cL_answer 22 = .ok (.ireturn, 1) := by decide +kernel
theorem dL_wouldRise_0 : decode cL_wouldRise 0 = .ok (.aload_n 2, 1) := by decide +kernel
theorem dL_wouldRise_1 : decode cL_wouldRise 1 = .ok (.iconst 0, 1) := by decide +kernel
theorem dL_wouldRise_2 : decode cL_wouldRise 2 = .ok (.aload_n 0, 1) := by decide +kernel
theorem dL_wouldRise_3 : decode cL_wouldRise 3 = .ok (.iload_n 1, 1) := by decide +kernel
theorem dL_wouldRise_4 : decode cL_wouldRise 4 = .ok (.invokevirtual 93, 3) := by decide +kernel
theorem dL_wouldRise_7 : decode cL_wouldRise 7 = .ok (.ifCond .eq 7, 3) := by decide +kernel
theorem dL_wouldRise_10 : decode cL_wouldRise 10 = .ok (.lconst 1, 1) := by decide +kernel
theorem dL_wouldRise_11 : decode cL_wouldRise 11 = .ok (.goto 4, 3) := by decide +kernel
theorem dL_wouldRise_14 : decode cL_wouldRise 14 = .ok (.lconst 0, 1) := by decide +kernel
theorem dL_wouldRise_15 : decode cL_wouldRise 15 = .ok (.lastore, 1) := by decide +kernel
theorem dL_wouldRise_16 : decode cL_wouldRise 16 = .ok (.goto 6, 3) := by decide +kernel
theorem dL_wouldRise_19 : decode cL_wouldRise 19 = .ok (.astore_n 3, 1) := by decide +kernel
theorem dL_wouldRise_20 : decode cL_wouldRise 20 = .ok (.iconst 1, 1) := by decide +kernel
theorem dL_wouldRise_21 : decode cL_wouldRise 21 = .ok (.ireturn, 1) := by decide +kernel
theorem dL_wouldRise_22 : decode cL_wouldRise 22 = .ok (.iconst 0, 1) := by decide +kernel
theorem dL_wouldRise_23 : decode cL_wouldRise 23 = .ok (.ireturn, 1) := by decide +kernel
theorem cst_0 : Cond.castable (exN 0) (exN 0) ∈ lw_tbl := List.mem_of_getElem? (i := 502) (by decide +kernel)
theorem cst_1 : Cond.castable (exN 1) (exN 1) ∈ lw_tbl := List.mem_of_getElem? (i := 571) (by decide +kernel)
theorem cst_2 : Cond.castable (exN 2) (exN 2) ∈ lw_tbl := List.mem_of_getElem? (i := 834) (by decide +kernel)
theorem cst_3 : Cond.castable (exN 3) (exN 3) ∈ lw_tbl := List.mem_of_getElem? (i := 1036) (by decide +kernel)
section CE3
variable {D : DD} {B : Nat} {σ : St}
theorem ca_70 (j : Nat) (x : Int64) : cells D B true (sJ σ 70 j x) = (cells D B true σ).set 70 (.inl (D.2 2, 1, .inr (.inl (ups (gJ σ 70) j x)))) := rfl
end CE3
theorem w_496 : Cond.methodLink RL 7 yX10_type ∈ WT := WT_in (List.mem_of_getElem? (i := 496) (by decide +kernel)) (by decide +kernel)
theorem w_497 : Cond.instanceMethod yX10_type ∈ WT := WT_in (List.mem_of_getElem? (i := 497) (by decide +kernel)) (by decide +kernel)
theorem w_498 : Cond.selects RX10 yX10_type yX10_type ∈ WT := WT_in (List.mem_of_getElem? (i := 498) (by decide +kernel)) (by decide +kernel)
theorem w_499 : Cond.code yX10_type cX10_type 2 (some .int) ∈ WT := WT_in (List.mem_of_getElem? (i := 499) (by decide +kernel)) (by decide +kernel)
theorem w_494 : Cond.classLink RL 13 "java/lang/IllegalArgumentException" ∈ WT := WT_in (List.mem_of_getElem? (i := 494) (by decide +kernel)) (by decide +kernel)
theorem w_495 : Cond.classLink RL 15 "java/lang/IllegalStateException" ∈ WT := WT_in (List.mem_of_getElem? (i := 495) (by decide +kernel)) (by decide +kernel)
theorem w_588 : Cond.methodLink RL 17 yX10_ask ∈ WT := WT_in (List.mem_of_getElem? (i := 588) (by decide +kernel)) (by decide +kernel)
theorem w_589 : Cond.instanceMethod yX10_ask ∈ WT := WT_in (List.mem_of_getElem? (i := 589) (by decide +kernel)) (by decide +kernel)
theorem w_590 : Cond.selects RX10 yX10_ask yX10_ask ∈ WT := WT_in (List.mem_of_getElem? (i := 590) (by decide +kernel)) (by decide +kernel)
theorem w_591 : Cond.code yX10_ask cX10_ask 4 (some .long) ∈ WT := WT_in (List.mem_of_getElem? (i := 591) (by decide +kernel)) (by decide +kernel)
theorem w_652 : Cond.methodLink RL 21 yX10_askByCodes ∈ WT := WT_in (List.mem_of_getElem? (i := 652) (by decide +kernel)) (by decide +kernel)
theorem w_653 : Cond.instanceMethod yX10_askByCodes ∈ WT := WT_in (List.mem_of_getElem? (i := 653) (by decide +kernel)) (by decide +kernel)
theorem w_654 : Cond.selects RX10 yX10_askByCodes yX10_askByCodes ∈ WT := WT_in (List.mem_of_getElem? (i := 654) (by decide +kernel)) (by decide +kernel)
theorem w_655 : Cond.code yX10_askByCodes cX10_askByCodes 3 (some .long) ∈ WT := WT_in (List.mem_of_getElem? (i := 655) (by decide +kernel)) (by decide +kernel)
theorem w_735 : Cond.methodLink RL 24 yX10_pass ∈ WT := WT_in (List.mem_of_getElem? (i := 735) (by decide +kernel)) (by decide +kernel)
theorem w_736 : Cond.instanceMethod yX10_pass ∈ WT := WT_in (List.mem_of_getElem? (i := 736) (by decide +kernel)) (by decide +kernel)
theorem w_737 : Cond.selects RX10 yX10_pass yX10_pass ∈ WT := WT_in (List.mem_of_getElem? (i := 737) (by decide +kernel)) (by decide +kernel)
theorem w_738 : Cond.code yX10_pass cX10_pass 4 (some .int) ∈ WT := WT_in (List.mem_of_getElem? (i := 738) (by decide +kernel)) (by decide +kernel)
theorem w_797 : Cond.methodLink RL 28 yX10_log ∈ WT := WT_in (List.mem_of_getElem? (i := 797) (by decide +kernel)) (by decide +kernel)
theorem w_798 : Cond.instanceMethod yX10_log ∈ WT := WT_in (List.mem_of_getElem? (i := 798) (by decide +kernel)) (by decide +kernel)
theorem w_799 : Cond.selects RX10 yX10_log yX10_log ∈ WT := WT_in (List.mem_of_getElem? (i := 799) (by decide +kernel)) (by decide +kernel)
theorem w_800 : Cond.code yX10_log cX10_log 5 (some .int) ∈ WT := WT_in (List.mem_of_getElem? (i := 800) (by decide +kernel)) (by decide +kernel)
theorem w_815 : Cond.methodLink RL 32 yX10_addPerson ∈ WT := WT_in (List.mem_of_getElem? (i := 815) (by decide +kernel)) (by decide +kernel)
theorem w_816 : Cond.instanceMethod yX10_addPerson ∈ WT := WT_in (List.mem_of_getElem? (i := 816) (by decide +kernel)) (by decide +kernel)
theorem w_817 : Cond.selects RX10 yX10_addPerson yX10_addPerson ∈ WT := WT_in (List.mem_of_getElem? (i := 817) (by decide +kernel)) (by decide +kernel)
theorem w_818 : Cond.code yX10_addPerson cX10_addPerson 1 (some .int) ∈ WT := WT_in (List.mem_of_getElem? (i := 818) (by decide +kernel)) (by decide +kernel)
theorem w_824 : Cond.methodLink RL 36 yX10_off ∈ WT := WT_in (List.mem_of_getElem? (i := 824) (by decide +kernel)) (by decide +kernel)
theorem w_825 : Cond.instanceMethod yX10_off ∈ WT := WT_in (List.mem_of_getElem? (i := 825) (by decide +kernel)) (by decide +kernel)
theorem w_826 : Cond.selects RX10 yX10_off yX10_off ∈ WT := WT_in (List.mem_of_getElem? (i := 826) (by decide +kernel)) (by decide +kernel)
theorem w_827 : Cond.code yX10_off cX10_off 3 (some .boolean) ∈ WT := WT_in (List.mem_of_getElem? (i := 827) (by decide +kernel)) (by decide +kernel)
theorem w_823 : Cond.classLink RL 40 "java/lang/IndexOutOfBoundsException" ∈ WT := WT_in (List.mem_of_getElem? (i := 823) (by decide +kernel)) (by decide +kernel)
theorem w_857 : Cond.methodLink RL 42 yX10_swap ∈ WT := WT_in (List.mem_of_getElem? (i := 857) (by decide +kernel)) (by decide +kernel)
theorem w_858 : Cond.instanceMethod yX10_swap ∈ WT := WT_in (List.mem_of_getElem? (i := 858) (by decide +kernel)) (by decide +kernel)
theorem w_859 : Cond.selects RX10 yX10_swap yX10_swap ∈ WT := WT_in (List.mem_of_getElem? (i := 859) (by decide +kernel)) (by decide +kernel)
theorem w_860 : Cond.code yX10_swap cX10_swap 5 none ∈ WT := WT_in (List.mem_of_getElem? (i := 860) (by decide +kernel)) (by decide +kernel)
theorem w_872 : Cond.methodLink RL 46 yX10_planned ∈ WT := WT_in (List.mem_of_getElem? (i := 872) (by decide +kernel)) (by decide +kernel)
theorem w_873 : Cond.instanceMethod yX10_planned ∈ WT := WT_in (List.mem_of_getElem? (i := 873) (by decide +kernel)) (by decide +kernel)
theorem w_874 : Cond.selects RX10 yX10_planned yX10_planned ∈ WT := WT_in (List.mem_of_getElem? (i := 874) (by decide +kernel)) (by decide +kernel)
theorem w_875 : Cond.code yX10_planned cX10_planned 2 (some .int) ∈ WT := WT_in (List.mem_of_getElem? (i := 875) (by decide +kernel)) (by decide +kernel)
theorem w_879 : Cond.methodLink RL 49 yX10_holder ∈ WT := WT_in (List.mem_of_getElem? (i := 879) (by decide +kernel)) (by decide +kernel)
theorem w_880 : Cond.instanceMethod yX10_holder ∈ WT := WT_in (List.mem_of_getElem? (i := 880) (by decide +kernel)) (by decide +kernel)
theorem w_881 : Cond.selects RX10 yX10_holder yX10_holder ∈ WT := WT_in (List.mem_of_getElem? (i := 881) (by decide +kernel)) (by decide +kernel)
theorem w_882 : Cond.code yX10_holder cX10_holder 2 (some .int) ∈ WT := WT_in (List.mem_of_getElem? (i := 882) (by decide +kernel)) (by decide +kernel)
theorem w_886 : Cond.methodLink RL 52 yX10_nights ∈ WT := WT_in (List.mem_of_getElem? (i := 886) (by decide +kernel)) (by decide +kernel)
theorem w_887 : Cond.instanceMethod yX10_nights ∈ WT := WT_in (List.mem_of_getElem? (i := 887) (by decide +kernel)) (by decide +kernel)
theorem w_888 : Cond.selects RX10 yX10_nights yX10_nights ∈ WT := WT_in (List.mem_of_getElem? (i := 888) (by decide +kernel)) (by decide +kernel)
theorem w_889 : Cond.code yX10_nights cX10_nights 2 (some .int) ∈ WT := WT_in (List.mem_of_getElem? (i := 889) (by decide +kernel)) (by decide +kernel)
theorem w_897 : Cond.methodLink RL 55 yX10_owes ∈ WT := WT_in (List.mem_of_getElem? (i := 897) (by decide +kernel)) (by decide +kernel)
theorem w_898 : Cond.instanceMethod yX10_owes ∈ WT := WT_in (List.mem_of_getElem? (i := 898) (by decide +kernel)) (by decide +kernel)
theorem w_899 : Cond.selects RX10 yX10_owes yX10_owes ∈ WT := WT_in (List.mem_of_getElem? (i := 899) (by decide +kernel)) (by decide +kernel)
theorem w_900 : Cond.code yX10_owes cX10_owes 3 (some .int) ∈ WT := WT_in (List.mem_of_getElem? (i := 900) (by decide +kernel)) (by decide +kernel)
theorem w_908 : Cond.methodLink RL 59 yX10_addRule ∈ WT := WT_in (List.mem_of_getElem? (i := 908) (by decide +kernel)) (by decide +kernel)
theorem w_909 : Cond.instanceMethod yX10_addRule ∈ WT := WT_in (List.mem_of_getElem? (i := 909) (by decide +kernel)) (by decide +kernel)
theorem w_910 : Cond.selects RX10 yX10_addRule yX10_addRule ∈ WT := WT_in (List.mem_of_getElem? (i := 910) (by decide +kernel)) (by decide +kernel)
theorem w_911 : Cond.code yX10_addRule cX10_addRule 5 (some .int) ∈ WT := WT_in (List.mem_of_getElem? (i := 911) (by decide +kernel)) (by decide +kernel)
theorem w_964 : Cond.methodLink RL 63 yX10_drop ∈ WT := WT_in (List.mem_of_getElem? (i := 964) (by decide +kernel)) (by decide +kernel)
theorem w_965 : Cond.instanceMethod yX10_drop ∈ WT := WT_in (List.mem_of_getElem? (i := 965) (by decide +kernel)) (by decide +kernel)
theorem w_966 : Cond.selects RX10 yX10_drop yX10_drop ∈ WT := WT_in (List.mem_of_getElem? (i := 966) (by decide +kernel)) (by decide +kernel)
theorem w_967 : Cond.code yX10_drop cX10_drop 3 (some .int) ∈ WT := WT_in (List.mem_of_getElem? (i := 967) (by decide +kernel)) (by decide +kernel)
theorem w_973 : Cond.methodLink RL 66 yX10_silence ∈ WT := WT_in (List.mem_of_getElem? (i := 973) (by decide +kernel)) (by decide +kernel)
theorem w_974 : Cond.instanceMethod yX10_silence ∈ WT := WT_in (List.mem_of_getElem? (i := 974) (by decide +kernel)) (by decide +kernel)
theorem w_975 : Cond.selects RX10 yX10_silence yX10_silence ∈ WT := WT_in (List.mem_of_getElem? (i := 975) (by decide +kernel)) (by decide +kernel)
theorem w_976 : Cond.code yX10_silence cX10_silence 5 (some .int) ∈ WT := WT_in (List.mem_of_getElem? (i := 976) (by decide +kernel)) (by decide +kernel)
theorem w_985 : Cond.methodLink RL 69 yX10_inWindow ∈ WT := WT_in (List.mem_of_getElem? (i := 985) (by decide +kernel)) (by decide +kernel)
theorem w_986 : Cond.instanceMethod yX10_inWindow ∈ WT := WT_in (List.mem_of_getElem? (i := 986) (by decide +kernel)) (by decide +kernel)
theorem w_987 : Cond.selects RX10 yX10_inWindow yX10_inWindow ∈ WT := WT_in (List.mem_of_getElem? (i := 987) (by decide +kernel)) (by decide +kernel)
theorem w_988 : Cond.code yX10_inWindow cX10_inWindow 3 (some .int) ∈ WT := WT_in (List.mem_of_getElem? (i := 988) (by decide +kernel)) (by decide +kernel)
theorem w_992 : Cond.methodLink RL 72 yX10_rises ∈ WT := WT_in (List.mem_of_getElem? (i := 992) (by decide +kernel)) (by decide +kernel)
theorem w_993 : Cond.instanceMethod yX10_rises ∈ WT := WT_in (List.mem_of_getElem? (i := 993) (by decide +kernel)) (by decide +kernel)
theorem w_994 : Cond.selects RX10 yX10_rises yX10_rises ∈ WT := WT_in (List.mem_of_getElem? (i := 994) (by decide +kernel)) (by decide +kernel)
theorem w_995 : Cond.code yX10_rises cX10_rises 3 (some .int) ∈ WT := WT_in (List.mem_of_getElem? (i := 995) (by decide +kernel)) (by decide +kernel)
theorem w_999 : Cond.methodLink RL 75 yX10_risesAnew ∈ WT := WT_in (List.mem_of_getElem? (i := 999) (by decide +kernel)) (by decide +kernel)
theorem w_1000 : Cond.instanceMethod yX10_risesAnew ∈ WT := WT_in (List.mem_of_getElem? (i := 1000) (by decide +kernel)) (by decide +kernel)
theorem w_1001 : Cond.selects RX10 yX10_risesAnew yX10_risesAnew ∈ WT := WT_in (List.mem_of_getElem? (i := 1001) (by decide +kernel)) (by decide +kernel)
theorem w_1002 : Cond.code yX10_risesAnew cX10_risesAnew 7 (some .int) ∈ WT := WT_in (List.mem_of_getElem? (i := 1002) (by decide +kernel)) (by decide +kernel)
theorem w_1006 : Cond.methodLink RL 78 yX10_alarm ∈ WT := WT_in (List.mem_of_getElem? (i := 1006) (by decide +kernel)) (by decide +kernel)
theorem w_1007 : Cond.instanceMethod yX10_alarm ∈ WT := WT_in (List.mem_of_getElem? (i := 1007) (by decide +kernel)) (by decide +kernel)
theorem w_1008 : Cond.selects RX10 yX10_alarm yX10_alarm ∈ WT := WT_in (List.mem_of_getElem? (i := 1008) (by decide +kernel)) (by decide +kernel)
theorem w_1009 : Cond.code yX10_alarm cX10_alarm 2 (some .int) ∈ WT := WT_in (List.mem_of_getElem? (i := 1009) (by decide +kernel)) (by decide +kernel)
theorem w_1018 : Cond.methodLink RL 81 yX10_woken ∈ WT := WT_in (List.mem_of_getElem? (i := 1018) (by decide +kernel)) (by decide +kernel)
theorem w_1019 : Cond.instanceMethod yX10_woken ∈ WT := WT_in (List.mem_of_getElem? (i := 1019) (by decide +kernel)) (by decide +kernel)
theorem w_1020 : Cond.selects RX10 yX10_woken yX10_woken ∈ WT := WT_in (List.mem_of_getElem? (i := 1020) (by decide +kernel)) (by decide +kernel)
theorem w_1021 : Cond.code yX10_woken cX10_woken 2 (some .int) ∈ WT := WT_in (List.mem_of_getElem? (i := 1021) (by decide +kernel)) (by decide +kernel)
theorem w_1030 : Cond.methodLink RL 84 yX10_wokenAt ∈ WT := WT_in (List.mem_of_getElem? (i := 1030) (by decide +kernel)) (by decide +kernel)
theorem w_1031 : Cond.instanceMethod yX10_wokenAt ∈ WT := WT_in (List.mem_of_getElem? (i := 1031) (by decide +kernel)) (by decide +kernel)
theorem w_1032 : Cond.selects RX10 yX10_wokenAt yX10_wokenAt ∈ WT := WT_in (List.mem_of_getElem? (i := 1032) (by decide +kernel)) (by decide +kernel)
theorem w_1033 : Cond.code yX10_wokenAt cX10_wokenAt 2 (some .int) ∈ WT := WT_in (List.mem_of_getElem? (i := 1033) (by decide +kernel)) (by decide +kernel)
theorem w_1029 : Cond.classLink RL 87 "java/util/NoSuchElementException" ∈ WT := WT_in (List.mem_of_getElem? (i := 1029) (by decide +kernel)) (by decide +kernel)
theorem w_1053 : Cond.methodLink RL 89 yX10_answer ∈ WT := WT_in (List.mem_of_getElem? (i := 1053) (by decide +kernel)) (by decide +kernel)
theorem w_1054 : Cond.instanceMethod yX10_answer ∈ WT := WT_in (List.mem_of_getElem? (i := 1054) (by decide +kernel)) (by decide +kernel)
theorem w_1055 : Cond.selects RX10 yX10_answer yX10_answer ∈ WT := WT_in (List.mem_of_getElem? (i := 1055) (by decide +kernel)) (by decide +kernel)
theorem w_1056 : Cond.code yX10_answer cX10_answer 3 (some .int) ∈ WT := WT_in (List.mem_of_getElem? (i := 1056) (by decide +kernel)) (by decide +kernel)
theorem w_1070 : Cond.methodLink RL 93 yX10_wouldRise ∈ WT := WT_in (List.mem_of_getElem? (i := 1070) (by decide +kernel)) (by decide +kernel)
theorem w_1071 : Cond.instanceMethod yX10_wouldRise ∈ WT := WT_in (List.mem_of_getElem? (i := 1071) (by decide +kernel)) (by decide +kernel)
theorem w_1072 : Cond.selects RX10 yX10_wouldRise yX10_wouldRise ∈ WT := WT_in (List.mem_of_getElem? (i := 1072) (by decide +kernel)) (by decide +kernel)
theorem w_1073 : Cond.code yX10_wouldRise cX10_wouldRise 3 (some .boolean) ∈ WT := WT_in (List.mem_of_getElem? (i := 1073) (by decide +kernel)) (by decide +kernel)
theorem hdV_X10_type : yX10_type.cls = RX10 ∧ yX10_type.cls ≠ "java/lang/invoke/MethodHandle" ∧ yX10_type.cls ≠ "java/lang/invoke/VarHandle" ∧ (parseMethodDescriptor yX10_type.desc).map (fun d => d.parameters.length) = some 1 := by decide +kernel
theorem hdV_X10_ask : yX10_ask.cls = RX10 ∧ yX10_ask.cls ≠ "java/lang/invoke/MethodHandle" ∧ yX10_ask.cls ≠ "java/lang/invoke/VarHandle" ∧ (parseMethodDescriptor yX10_ask.desc).map (fun d => d.parameters.length) = some 2 := by decide +kernel
theorem hdV_X10_askByCodes : yX10_askByCodes.cls = RX10 ∧ yX10_askByCodes.cls ≠ "java/lang/invoke/MethodHandle" ∧ yX10_askByCodes.cls ≠ "java/lang/invoke/VarHandle" ∧ (parseMethodDescriptor yX10_askByCodes.desc).map (fun d => d.parameters.length) = some 2 := by decide +kernel
theorem hdV_X10_pass : yX10_pass.cls = RX10 ∧ yX10_pass.cls ≠ "java/lang/invoke/MethodHandle" ∧ yX10_pass.cls ≠ "java/lang/invoke/VarHandle" ∧ (parseMethodDescriptor yX10_pass.desc).map (fun d => d.parameters.length) = some 1 := by decide +kernel
theorem hdV_X10_log : yX10_log.cls = RX10 ∧ yX10_log.cls ≠ "java/lang/invoke/MethodHandle" ∧ yX10_log.cls ≠ "java/lang/invoke/VarHandle" ∧ (parseMethodDescriptor yX10_log.desc).map (fun d => d.parameters.length) = some 4 := by decide +kernel
theorem hdV_X10_addPerson : yX10_addPerson.cls = RX10 ∧ yX10_addPerson.cls ≠ "java/lang/invoke/MethodHandle" ∧ yX10_addPerson.cls ≠ "java/lang/invoke/VarHandle" ∧ (parseMethodDescriptor yX10_addPerson.desc).map (fun d => d.parameters.length) = some 0 := by decide +kernel
theorem hdV_X10_off : yX10_off.cls = RX10 ∧ yX10_off.cls ≠ "java/lang/invoke/MethodHandle" ∧ yX10_off.cls ≠ "java/lang/invoke/VarHandle" ∧ (parseMethodDescriptor yX10_off.desc).map (fun d => d.parameters.length) = some 2 := by decide +kernel
theorem hdV_X10_swap : yX10_swap.cls = RX10 ∧ yX10_swap.cls ≠ "java/lang/invoke/MethodHandle" ∧ yX10_swap.cls ≠ "java/lang/invoke/VarHandle" ∧ (parseMethodDescriptor yX10_swap.desc).map (fun d => d.parameters.length) = some 2 := by decide +kernel
theorem hdV_X10_planned : yX10_planned.cls = RX10 ∧ yX10_planned.cls ≠ "java/lang/invoke/MethodHandle" ∧ yX10_planned.cls ≠ "java/lang/invoke/VarHandle" ∧ (parseMethodDescriptor yX10_planned.desc).map (fun d => d.parameters.length) = some 1 := by decide +kernel
theorem hdV_X10_holder : yX10_holder.cls = RX10 ∧ yX10_holder.cls ≠ "java/lang/invoke/MethodHandle" ∧ yX10_holder.cls ≠ "java/lang/invoke/VarHandle" ∧ (parseMethodDescriptor yX10_holder.desc).map (fun d => d.parameters.length) = some 1 := by decide +kernel
theorem hdV_X10_nights : yX10_nights.cls = RX10 ∧ yX10_nights.cls ≠ "java/lang/invoke/MethodHandle" ∧ yX10_nights.cls ≠ "java/lang/invoke/VarHandle" ∧ (parseMethodDescriptor yX10_nights.desc).map (fun d => d.parameters.length) = some 1 := by decide +kernel
theorem hdV_X10_owes : yX10_owes.cls = RX10 ∧ yX10_owes.cls ≠ "java/lang/invoke/MethodHandle" ∧ yX10_owes.cls ≠ "java/lang/invoke/VarHandle" ∧ (parseMethodDescriptor yX10_owes.desc).map (fun d => d.parameters.length) = some 2 := by decide +kernel
theorem hdV_X10_addRule : yX10_addRule.cls = RX10 ∧ yX10_addRule.cls ≠ "java/lang/invoke/MethodHandle" ∧ yX10_addRule.cls ≠ "java/lang/invoke/VarHandle" ∧ (parseMethodDescriptor yX10_addRule.desc).map (fun d => d.parameters.length) = some 3 := by decide +kernel
theorem hdV_X10_drop : yX10_drop.cls = RX10 ∧ yX10_drop.cls ≠ "java/lang/invoke/MethodHandle" ∧ yX10_drop.cls ≠ "java/lang/invoke/VarHandle" ∧ (parseMethodDescriptor yX10_drop.desc).map (fun d => d.parameters.length) = some 1 := by decide +kernel
theorem hdV_X10_silence : yX10_silence.cls = RX10 ∧ yX10_silence.cls ≠ "java/lang/invoke/MethodHandle" ∧ yX10_silence.cls ≠ "java/lang/invoke/VarHandle" ∧ (parseMethodDescriptor yX10_silence.desc).map (fun d => d.parameters.length) = some 3 := by decide +kernel
theorem hdV_X10_inWindow : yX10_inWindow.cls = RX10 ∧ yX10_inWindow.cls ≠ "java/lang/invoke/MethodHandle" ∧ yX10_inWindow.cls ≠ "java/lang/invoke/VarHandle" ∧ (parseMethodDescriptor yX10_inWindow.desc).map (fun d => d.parameters.length) = some 1 := by decide +kernel
theorem hdV_X10_rises : yX10_rises.cls = RX10 ∧ yX10_rises.cls ≠ "java/lang/invoke/MethodHandle" ∧ yX10_rises.cls ≠ "java/lang/invoke/VarHandle" ∧ (parseMethodDescriptor yX10_rises.desc).map (fun d => d.parameters.length) = some 1 := by decide +kernel
theorem hdV_X10_risesAnew : yX10_risesAnew.cls = RX10 ∧ yX10_risesAnew.cls ≠ "java/lang/invoke/MethodHandle" ∧ yX10_risesAnew.cls ≠ "java/lang/invoke/VarHandle" ∧ (parseMethodDescriptor yX10_risesAnew.desc).map (fun d => d.parameters.length) = some 1 := by decide +kernel
theorem hdV_X10_alarm : yX10_alarm.cls = RX10 ∧ yX10_alarm.cls ≠ "java/lang/invoke/MethodHandle" ∧ yX10_alarm.cls ≠ "java/lang/invoke/VarHandle" ∧ (parseMethodDescriptor yX10_alarm.desc).map (fun d => d.parameters.length) = some 1 := by decide +kernel
theorem hdV_X10_woken : yX10_woken.cls = RX10 ∧ yX10_woken.cls ≠ "java/lang/invoke/MethodHandle" ∧ yX10_woken.cls ≠ "java/lang/invoke/VarHandle" ∧ (parseMethodDescriptor yX10_woken.desc).map (fun d => d.parameters.length) = some 1 := by decide +kernel
theorem hdV_X10_wokenAt : yX10_wokenAt.cls = RX10 ∧ yX10_wokenAt.cls ≠ "java/lang/invoke/MethodHandle" ∧ yX10_wokenAt.cls ≠ "java/lang/invoke/VarHandle" ∧ (parseMethodDescriptor yX10_wokenAt.desc).map (fun d => d.parameters.length) = some 1 := by decide +kernel
theorem hdV_X10_answer : yX10_answer.cls = RX10 ∧ yX10_answer.cls ≠ "java/lang/invoke/MethodHandle" ∧ yX10_answer.cls ≠ "java/lang/invoke/VarHandle" ∧ (parseMethodDescriptor yX10_answer.desc).map (fun d => d.parameters.length) = some 2 := by decide +kernel
theorem hdV_X10_wouldRise : yX10_wouldRise.cls = RX10 ∧ yX10_wouldRise.cls ≠ "java/lang/invoke/MethodHandle" ∧ yX10_wouldRise.cls ≠ "java/lang/invoke/VarHandle" ∧ (parseMethodDescriptor yX10_wouldRise.desc).map (fun d => d.parameters.length) = some 1 := by decide +kernel
def f_L_type (F : Nat) (s : St) (p1 : Int32) : Option (Int32 × St) :=
  (f_P_type F (sz s + 64) s p1).bind fun x => match x.1 with
  | .inl v => some (0, sJ x.2 70 0 v.toInt64)
  | .inr e => if e = 0 then some (1, x.2) else (if e = 1 then some (2, x.2) else none)
set_option maxHeartbeats 1000000 in
theorem c_L_type {F : Nat} {s : St} {p1 : Int32} {r : Int32} {s' : St} (hf : f_L_type F s p1 = some (r, s')) : CW yL_type (Cond.codeWith yL_type cL_type 4 (some .int) [(0, 9, 12, 13), (0, 9, 15, 15)]) 7 111 (fun B => [.ref (B + 0), .int p1, .ref (B + 70)]) s r s' := by
  refine CW.of (fun B => [(0, .ref (B + 0)), (1, .int p1), (2, .ref (B + 70))]) (by decide +kernel) (fun _ => rfl) (fun _ => (by simp [lg_sl, rfB_cat, catI, catL, catR])) (fun Γ D B X Y => ?_)
  have X : Cx Γ RL cL_type 4 D B (RW 7 111) := X
  unfold f_L_type at hf
  refine bnd hf (fun x1 h1 hf => ?_)
  obtain ⟨x, s1⟩ := x1
  refine r_aload_n (x := some 70) (pc := 0) X dL_type_0 2 rfl ?_
  refine r_iconst (v := 0) (pc := 1) X dL_type_1 (by decide) ?_
  refine r_aload_n (x := some 0) (pc := 2) X dL_type_2 0 rfl ?_
  refine r_iload_n (pc := 3) X dL_type_3 1 rfl ?_
  refine t_call (As := [.int p1]) (st := [.int 0, .ref (B + 70)]) (pc := 4) X Y (c_f_P_type h1) rfl w_496 w_497 w_498 w_74 w_499 hdV_X10_type (Rc.s rfl ce_0) (by decide) (Nat.le_of_ble_eq_true rfl) dL_type_4 rfl (fun v hv => ?_) (fun E hE H1 locs1 ls n9 ce q9 a1 a2 a3 a4 a5 a6 a7 => ?_)
  · cases x with
    | inr e => cases hv
    | inl x =>
      cases hv
      refine r_i2l (pc := 7) X dL_type_7 ?_
      refine b_last (pc := 8) (G := fun _ s2 => some ((0 : Int32), s2)) X ce_70 (fun _ => ca_70 _ _) dL_type_8 hf (fun j1 s2 hf => ?_)
      refine r_goto (tgt := 18) (pc := 9) X dL_type_9 (by decide) ?_
      refine r_iconst (v := 0) (pc := 18) X dL_type_18 (by decide) ?_
      exact t_iret (pc := 19) X Y hf dL_type_19
  · cases x with
    | inl v => cases hE
    | inr e =>
      obtain rfl : exN e = E := Sum.inr.inj hE
      by_cases he : e = 0
      · subst he
        have hf := ifp hf rfl
        cases hf
        exact t_catch X Y a1 a2 a3 a5 a6 a7 [] [(0, 9, 15, 15)] rfl (fun z hz => nomatch hz) (by decide) (by decide) w_494 cst_0 (t_hand_n (hp := 12) X Y a4 (by decide) a1 a2 a3 dL_type_12 dL_type_13 (by decide) dL_type_14)
      have hf := ifn hf he
      by_cases he : e = 1
      · subst he
        have hf := ifp hf rfl
        cases hf
        exact t_catch X Y a1 a2 a3 a5 a6 a7 [(0, 9, 12, 13)] [] rfl (List.forall_mem_cons.mpr ⟨⟨by decide, _, w_494, by decide +kernel⟩, (List.forall_mem_nil _)⟩) (by decide) (by decide) w_495 cst_1 (t_hand_n (hp := 15) X Y a4 (by decide) a1 a2 a3 dL_type_15 dL_type_16 (by decide) dL_type_17)
      have hf := ifn hf he
      cases hf
def f_L_ask (F : Nat) (s : St) (p1 : Int32) (p2 : Int32) : Option (Int32 × St) :=
  (f_P_ask F (sz s + 64) s p1 p2).bind fun x => match x.1 with
  | .inl v => some (0, sJ x.2 70 0 v)
  | .inr e => if e = 0 then some (1, x.2) else (if e = 1 then some (2, x.2) else none)
set_option maxHeartbeats 1000000 in
theorem c_L_ask {F : Nat} {s : St} {p1 : Int32} {p2 : Int32} {r : Int32} {s' : St} (hf : f_L_ask F s p1 p2 = some (r, s')) : CW yL_ask (Cond.codeWith yL_ask cL_ask 5 (some .int) [(0, 9, 12, 13), (0, 9, 16, 15)]) 803 16473 (fun B => [.ref (B + 0), .int p1, .int p2, .ref (B + 70)]) s r s' := by
  refine CW.of (fun B => [(0, .ref (B + 0)), (1, .int p1), (2, .int p2), (3, .ref (B + 70))]) (by decide +kernel) (fun _ => rfl) (fun _ => (by simp [lg_sl, rfB_cat, catI, catL, catR])) (fun Γ D B X Y => ?_)
  have X : Cx Γ RL cL_ask 5 D B (RW 803 16473) := X
  unfold f_L_ask at hf
  refine bnd hf (fun x1 h1 hf => ?_)
  obtain ⟨x, s1⟩ := x1
  refine r_aload_n (x := some 70) (pc := 0) X dL_ask_0 3 rfl ?_
  refine r_iconst (v := 0) (pc := 1) X dL_ask_1 (by decide) ?_
  refine r_aload_n (x := some 0) (pc := 2) X dL_ask_2 0 rfl ?_
  refine r_iload_n (pc := 3) X dL_ask_3 1 rfl ?_
  refine r_iload_n (pc := 4) X dL_ask_4 2 rfl ?_
  refine t_call (As := [.int p1, .int p2]) (st := [.int 0, .ref (B + 70)]) (pc := 5) X Y (c_f_P_ask h1) rfl w_588 w_589 w_590 w_74 w_591 hdV_X10_ask (Rc.s rfl ce_0) (by decide) (Nat.le_of_ble_eq_true rfl) dL_ask_5 rfl (fun v hv => ?_) (fun E hE H1 locs1 ls n9 ce q9 a1 a2 a3 a4 a5 a6 a7 => ?_)
  · cases x with
    | inr e => cases hv
    | inl x =>
      cases hv
      refine b_last (pc := 8) (G := fun _ s2 => some ((0 : Int32), s2)) X ce_70 (fun _ => ca_70 _ _) dL_ask_8 hf (fun j1 s2 hf => ?_)
      refine r_goto (tgt := 20) (pc := 9) X dL_ask_9 (by decide) ?_
      refine r_iconst (v := 0) (pc := 20) X dL_ask_20 (by decide) ?_
      exact t_iret (pc := 21) X Y hf dL_ask_21
  · cases x with
    | inl v => cases hE
    | inr e =>
      obtain rfl : exN e = E := Sum.inr.inj hE
      by_cases he : e = 0
      · subst he
        have hf := ifp hf rfl
        cases hf
        exact t_catch X Y a1 a2 a3 a5 a6 a7 [] [(0, 9, 16, 15)] rfl (fun z hz => nomatch hz) (by decide) (by decide) w_494 cst_0 (t_hand (hp := 12) X Y a4 (by decide) a1 a2 a3 dL_ask_12 dL_ask_14 (by decide) dL_ask_15)
      have hf := ifn hf he
      by_cases he : e = 1
      · subst he
        have hf := ifp hf rfl
        cases hf
        exact t_catch X Y a1 a2 a3 a5 a6 a7 [(0, 9, 12, 13)] [] rfl (List.forall_mem_cons.mpr ⟨⟨by decide, _, w_494, by decide +kernel⟩, (List.forall_mem_nil _)⟩) (by decide) (by decide) w_495 cst_1 (t_hand (hp := 16) X Y a4 (by decide) a1 a2 a3 dL_ask_16 dL_ask_18 (by decide) dL_ask_19)
      have hf := ifn hf he
      cases hf
def f_L_askByCodes (F : Nat) (s : St) (p1 : Int32) (p2 : Int32) : Option (Int32 × St) :=
  (f_P_askByCodes F (sz s + 64) s p1 p2).bind fun x => match x.1 with
  | .inl v => some (0, sJ x.2 70 0 v)
  | .inr e => if e = 0 then some (1, x.2) else (if e = 1 then some (2, x.2) else none)
set_option maxHeartbeats 1000000 in
theorem c_L_askByCodes {F : Nat} {s : St} {p1 : Int32} {p2 : Int32} {r : Int32} {s' : St} (hf : f_L_askByCodes F s p1 p2 = some (r, s')) : CW yL_askByCodes (Cond.codeWith yL_askByCodes cL_askByCodes 5 (some .int) [(0, 9, 12, 13), (0, 9, 16, 15)]) 803 16472 (fun B => [.ref (B + 0), .int p1, .int p2, .ref (B + 70)]) s r s' := by
  refine CW.of (fun B => [(0, .ref (B + 0)), (1, .int p1), (2, .int p2), (3, .ref (B + 70))]) (by decide +kernel) (fun _ => rfl) (fun _ => (by simp [lg_sl, rfB_cat, catI, catL, catR])) (fun Γ D B X Y => ?_)
  have X : Cx Γ RL cL_askByCodes 5 D B (RW 803 16472) := X
  unfold f_L_askByCodes at hf
  refine bnd hf (fun x1 h1 hf => ?_)
  obtain ⟨x, s1⟩ := x1
  refine r_aload_n (x := some 70) (pc := 0) X dL_askByCodes_0 3 rfl ?_
  refine r_iconst (v := 0) (pc := 1) X dL_askByCodes_1 (by decide) ?_
  refine r_aload_n (x := some 0) (pc := 2) X dL_askByCodes_2 0 rfl ?_
  refine r_iload_n (pc := 3) X dL_askByCodes_3 1 rfl ?_
  refine r_iload_n (pc := 4) X dL_askByCodes_4 2 rfl ?_
  refine t_call (As := [.int p1, .int p2]) (st := [.int 0, .ref (B + 70)]) (pc := 5) X Y (c_f_P_askByCodes h1) rfl w_652 w_653 w_654 w_74 w_655 hdV_X10_askByCodes (Rc.s rfl ce_0) (by decide) (Nat.le_of_ble_eq_true rfl) dL_askByCodes_5 rfl (fun v hv => ?_) (fun E hE H1 locs1 ls n9 ce q9 a1 a2 a3 a4 a5 a6 a7 => ?_)
  · cases x with
    | inr e => cases hv
    | inl x =>
      cases hv
      refine b_last (pc := 8) (G := fun _ s2 => some ((0 : Int32), s2)) X ce_70 (fun _ => ca_70 _ _) dL_askByCodes_8 hf (fun j1 s2 hf => ?_)
      refine r_goto (tgt := 20) (pc := 9) X dL_askByCodes_9 (by decide) ?_
      refine r_iconst (v := 0) (pc := 20) X dL_askByCodes_20 (by decide) ?_
      exact t_iret (pc := 21) X Y hf dL_askByCodes_21
  · cases x with
    | inl v => cases hE
    | inr e =>
      obtain rfl : exN e = E := Sum.inr.inj hE
      by_cases he : e = 0
      · subst he
        have hf := ifp hf rfl
        cases hf
        exact t_catch X Y a1 a2 a3 a5 a6 a7 [] [(0, 9, 16, 15)] rfl (fun z hz => nomatch hz) (by decide) (by decide) w_494 cst_0 (t_hand (hp := 12) X Y a4 (by decide) a1 a2 a3 dL_askByCodes_12 dL_askByCodes_14 (by decide) dL_askByCodes_15)
      have hf := ifn hf he
      by_cases he : e = 1
      · subst he
        have hf := ifp hf rfl
        cases hf
        exact t_catch X Y a1 a2 a3 a5 a6 a7 [(0, 9, 12, 13)] [] rfl (List.forall_mem_cons.mpr ⟨⟨by decide, _, w_494, by decide +kernel⟩, (List.forall_mem_nil _)⟩) (by decide) (by decide) w_495 cst_1 (t_hand (hp := 16) X Y a4 (by decide) a1 a2 a3 dL_askByCodes_16 dL_askByCodes_18 (by decide) dL_askByCodes_19)
      have hf := ifn hf he
      cases hf
def f_L_pass (F : Nat) (s : St) (p1 : Int32) : Option (Int32 × St) :=
  (f_P_pass F (sz s + 64) s p1).bind fun x => match x.1 with
  | .inl v => some (0, sJ x.2 70 0 v.toInt64)
  | .inr e => if e = 0 then some (1, x.2) else (if e = 1 then some (2, x.2) else none)
set_option maxHeartbeats 1000000 in
theorem c_L_pass {F : Nat} {s : St} {p1 : Int32} {r : Int32} {s' : St} (hf : f_L_pass F s p1 = some (r, s')) : CW yL_pass (Cond.codeWith yL_pass cL_pass 4 (some .int) [(0, 9, 12, 13), (0, 9, 15, 15)]) 205 4715 (fun B => [.ref (B + 0), .int p1, .ref (B + 70)]) s r s' := by
  refine CW.of (fun B => [(0, .ref (B + 0)), (1, .int p1), (2, .ref (B + 70))]) (by decide +kernel) (fun _ => rfl) (fun _ => (by simp [lg_sl, rfB_cat, catI, catL, catR])) (fun Γ D B X Y => ?_)
  have X : Cx Γ RL cL_pass 4 D B (RW 205 4715) := X
  unfold f_L_pass at hf
  refine bnd hf (fun x1 h1 hf => ?_)
  obtain ⟨x, s1⟩ := x1
  refine r_aload_n (x := some 70) (pc := 0) X dL_pass_0 2 rfl ?_
  refine r_iconst (v := 0) (pc := 1) X dL_pass_1 (by decide) ?_
  refine r_aload_n (x := some 0) (pc := 2) X dL_pass_2 0 rfl ?_
  refine r_iload_n (pc := 3) X dL_pass_3 1 rfl ?_
  refine t_call (As := [.int p1]) (st := [.int 0, .ref (B + 70)]) (pc := 4) X Y (c_f_P_pass h1) rfl w_735 w_736 w_737 w_74 w_738 hdV_X10_pass (Rc.s rfl ce_0) (by decide) (Nat.le_of_ble_eq_true rfl) dL_pass_4 rfl (fun v hv => ?_) (fun E hE H1 locs1 ls n9 ce q9 a1 a2 a3 a4 a5 a6 a7 => ?_)
  · cases x with
    | inr e => cases hv
    | inl x =>
      cases hv
      refine r_i2l (pc := 7) X dL_pass_7 ?_
      refine b_last (pc := 8) (G := fun _ s2 => some ((0 : Int32), s2)) X ce_70 (fun _ => ca_70 _ _) dL_pass_8 hf (fun j1 s2 hf => ?_)
      refine r_goto (tgt := 18) (pc := 9) X dL_pass_9 (by decide) ?_
      refine r_iconst (v := 0) (pc := 18) X dL_pass_18 (by decide) ?_
      exact t_iret (pc := 19) X Y hf dL_pass_19
  · cases x with
    | inl v => cases hE
    | inr e =>
      obtain rfl : exN e = E := Sum.inr.inj hE
      by_cases he : e = 0
      · subst he
        have hf := ifp hf rfl
        cases hf
        exact t_catch X Y a1 a2 a3 a5 a6 a7 [] [(0, 9, 15, 15)] rfl (fun z hz => nomatch hz) (by decide) (by decide) w_494 cst_0 (t_hand_n (hp := 12) X Y a4 (by decide) a1 a2 a3 dL_pass_12 dL_pass_13 (by decide) dL_pass_14)
      have hf := ifn hf he
      by_cases he : e = 1
      · subst he
        have hf := ifp hf rfl
        cases hf
        exact t_catch X Y a1 a2 a3 a5 a6 a7 [(0, 9, 12, 13)] [] rfl (List.forall_mem_cons.mpr ⟨⟨by decide, _, w_494, by decide +kernel⟩, (List.forall_mem_nil _)⟩) (by decide) (by decide) w_495 cst_1 (t_hand_n (hp := 15) X Y a4 (by decide) a1 a2 a3 dL_pass_15 dL_pass_16 (by decide) dL_pass_17)
      have hf := ifn hf he
      cases hf
def f_L_log (F : Nat) (s : St) (p1 : Int32) (p2 : Int32) (p3 : Int32) (p4 : Int32) : Option (Int32 × St) :=
  (f_P_log F (sz s + 64) s p1 p2 p3 p4).bind fun x => match x.1 with
  | .inl v => some (0, sJ x.2 70 0 v.toInt64)
  | .inr e => if e = 0 then some (1, x.2) else (if e = 1 then some (2, x.2) else none)
set_option maxHeartbeats 1000000 in
theorem c_L_log {F : Nat} {s : St} {p1 : Int32} {p2 : Int32} {p3 : Int32} {p4 : Int32} {r : Int32} {s' : St} (hf : f_L_log F s p1 p2 p3 p4 = some (r, s')) : CW yL_log (Cond.codeWith yL_log cL_log 7 (some .int) [(0, 14, 17, 13), (0, 14, 21, 15)]) 7 114 (fun B => [.ref (B + 0), .int p1, .int p2, .int p3, .int p4, .ref (B + 70)]) s r s' := by
  refine CW.of (fun B => [(0, .ref (B + 0)), (1, .int p1), (2, .int p2), (3, .int p3), (4, .int p4), (5, .ref (B + 70))]) (by decide +kernel) (fun _ => rfl) (fun _ => (by simp [lg_sl, rfB_cat, catI, catL, catR])) (fun Γ D B X Y => ?_)
  have X : Cx Γ RL cL_log 7 D B (RW 7 114) := X
  unfold f_L_log at hf
  refine bnd hf (fun x1 h1 hf => ?_)
  obtain ⟨x, s1⟩ := x1
  refine r_aload (x := some 70) (pc := 0) X dL_log_0 5 rfl ?_
  refine r_iconst (v := 0) (pc := 2) X dL_log_2 (by decide) ?_
  refine r_aload_n (x := some 0) (pc := 3) X dL_log_3 0 rfl ?_
  refine r_iload_n (pc := 4) X dL_log_4 1 rfl ?_
  refine r_iload_n (pc := 5) X dL_log_5 2 rfl ?_
  refine r_iload_n (pc := 6) X dL_log_6 3 rfl ?_
  refine r_iload (pc := 7) X dL_log_7 4 rfl ?_
  refine t_call (As := [.int p1, .int p2, .int p3, .int p4]) (st := [.int 0, .ref (B + 70)]) (pc := 9) X Y (c_f_P_log h1) rfl w_797 w_798 w_799 w_74 w_800 hdV_X10_log (Rc.s rfl ce_0) (by decide) (Nat.le_of_ble_eq_true rfl) dL_log_9 rfl (fun v hv => ?_) (fun E hE H1 locs1 ls n9 ce q9 a1 a2 a3 a4 a5 a6 a7 => ?_)
  · cases x with
    | inr e => cases hv
    | inl x =>
      cases hv
      refine r_i2l (pc := 12) X dL_log_12 ?_
      refine b_last (pc := 13) (G := fun _ s2 => some ((0 : Int32), s2)) X ce_70 (fun _ => ca_70 _ _) dL_log_13 hf (fun j1 s2 hf => ?_)
      refine r_goto (tgt := 25) (pc := 14) X dL_log_14 (by decide) ?_
      refine r_iconst (v := 0) (pc := 25) X dL_log_25 (by decide) ?_
      exact t_iret (pc := 26) X Y hf dL_log_26
  · cases x with
    | inl v => cases hE
    | inr e =>
      obtain rfl : exN e = E := Sum.inr.inj hE
      by_cases he : e = 0
      · subst he
        have hf := ifp hf rfl
        cases hf
        exact t_catch X Y a1 a2 a3 a5 a6 a7 [] [(0, 14, 21, 15)] rfl (fun z hz => nomatch hz) (by decide) (by decide) w_494 cst_0 (t_hand (hp := 17) X Y a4 (by decide) a1 a2 a3 dL_log_17 dL_log_19 (by decide) dL_log_20)
      have hf := ifn hf he
      by_cases he : e = 1
      · subst he
        have hf := ifp hf rfl
        cases hf
        exact t_catch X Y a1 a2 a3 a5 a6 a7 [(0, 14, 17, 13)] [] rfl (List.forall_mem_cons.mpr ⟨⟨by decide, _, w_494, by decide +kernel⟩, (List.forall_mem_nil _)⟩) (by decide) (by decide) w_495 cst_1 (t_hand (hp := 21) X Y a4 (by decide) a1 a2 a3 dL_log_21 dL_log_23 (by decide) dL_log_24)
      have hf := ifn hf he
      cases hf
def f_L_addPerson (F : Nat) (s : St)  : Option (Int32 × St) :=
  (f_P_addPerson F (sz s + 64) s ).bind fun x => match x.1 with
  | .inl v => some (0, sJ x.2 70 0 v.toInt64)
  | .inr e => if e = 1 then some (1, x.2) else none
set_option maxHeartbeats 1000000 in
theorem c_L_addPerson {F : Nat} {s : St}  {r : Int32} {s' : St} (hf : f_L_addPerson F s  = some (r, s')) : CW yL_addPerson (Cond.codeWith yL_addPerson cL_addPerson 3 (some .int) [(0, 8, 11, 15)]) 7 110 (fun B => [.ref (B + 0), .ref (B + 70)]) s r s' := by
  refine CW.of (fun B => [(0, .ref (B + 0)), (1, .ref (B + 70))]) (by decide +kernel) (fun _ => rfl) (fun _ => (by simp [lg_sl, rfB_cat, catI, catL, catR])) (fun Γ D B X Y => ?_)
  have X : Cx Γ RL cL_addPerson 3 D B (RW 7 110) := X
  unfold f_L_addPerson at hf
  refine bnd hf (fun x1 h1 hf => ?_)
  obtain ⟨x, s1⟩ := x1
  refine r_aload_n (x := some 70) (pc := 0) X dL_addPerson_0 1 rfl ?_
  refine r_iconst (v := 0) (pc := 1) X dL_addPerson_1 (by decide) ?_
  refine r_aload_n (x := some 0) (pc := 2) X dL_addPerson_2 0 rfl ?_
  refine t_call (As := []) (st := [.int 0, .ref (B + 70)]) (pc := 3) X Y (c_f_P_addPerson h1) rfl w_815 w_816 w_817 w_74 w_818 hdV_X10_addPerson (Rc.s rfl ce_0) (by decide) (Nat.le_of_ble_eq_true rfl) dL_addPerson_3 rfl (fun v hv => ?_) (fun E hE H1 locs1 ls n9 ce q9 a1 a2 a3 a4 a5 a6 a7 => ?_)
  · cases x with
    | inr e => cases hv
    | inl x =>
      cases hv
      refine r_i2l (pc := 6) X dL_addPerson_6 ?_
      refine b_last (pc := 7) (G := fun _ s2 => some ((0 : Int32), s2)) X ce_70 (fun _ => ca_70 _ _) dL_addPerson_7 hf (fun j1 s2 hf => ?_)
      refine r_goto (tgt := 14) (pc := 8) X dL_addPerson_8 (by decide) ?_
      refine r_iconst (v := 0) (pc := 14) X dL_addPerson_14 (by decide) ?_
      exact t_iret (pc := 15) X Y hf dL_addPerson_15
  · cases x with
    | inl v => cases hE
    | inr e =>
      obtain rfl : exN e = E := Sum.inr.inj hE
      by_cases he : e = 1
      · subst he
        have hf := ifp hf rfl
        cases hf
        exact t_catch X Y a1 a2 a3 a5 a6 a7 [] [] rfl (fun z hz => nomatch hz) (by decide) (by decide) w_495 cst_1 (t_hand_n (hp := 11) X Y a4 (by decide) a1 a2 a3 dL_addPerson_11 dL_addPerson_12 (by decide) dL_addPerson_13)
      have hf := ifn hf he
      cases hf
def f_L_off (F : Nat) (s : St) (p1 : Int32) (p2 : Int32) : Option (Int32 × St) :=
  (f_P_off F (sz s + 64) s p1 p2).bind fun x => match x.1 with
  | .inl v => (if v = 0 then some (0, sJ x.2 70 0 0) else some (0, sJ x.2 70 0 1))
  | .inr e => if e = 2 then some (1, x.2) else (if e = 0 then some (2, x.2) else none)
set_option maxHeartbeats 1000000 in
theorem c_L_off {F : Nat} {s : St} {p1 : Int32} {p2 : Int32} {r : Int32} {s' : St} (hf : f_L_off F s p1 p2 = some (r, s')) : CW yL_off (Cond.codeWith yL_off cL_off 5 (some .int) [(0, 17, 20, 40), (0, 17, 24, 13)]) 7 112 (fun B => [.ref (B + 0), .int p1, .int p2, .ref (B + 70)]) s r s' := by
  refine CW.of (fun B => [(0, .ref (B + 0)), (1, .int p1), (2, .int p2), (3, .ref (B + 70))]) (by decide +kernel) (fun _ => rfl) (fun _ => (by simp [lg_sl, rfB_cat, catI, catL, catR])) (fun Γ D B X Y => ?_)
  have X : Cx Γ RL cL_off 5 D B (RW 7 112) := X
  unfold f_L_off at hf
  refine bnd hf (fun x1 h1 hf => ?_)
  obtain ⟨x, s1⟩ := x1
  refine r_aload_n (x := some 70) (pc := 0) X dL_off_0 3 rfl ?_
  refine r_iconst (v := 0) (pc := 1) X dL_off_1 (by decide) ?_
  refine r_aload_n (x := some 0) (pc := 2) X dL_off_2 0 rfl ?_
  refine r_iload_n (pc := 3) X dL_off_3 1 rfl ?_
  refine r_iload_n (pc := 4) X dL_off_4 2 rfl ?_
  refine t_call (As := [.int p1, .int p2]) (st := [.int 0, .ref (B + 70)]) (pc := 5) X Y (c_f_P_off h1) rfl w_824 w_825 w_826 w_74 w_827 hdV_X10_off (Rc.s rfl ce_0) (by decide) (Nat.le_of_ble_eq_true rfl) dL_off_5 rfl (fun v hv => ?_) (fun E hE H1 locs1 ls n9 ce q9 a1 a2 a3 a4 a5 a6 a7 => ?_)
  · cases x with
    | inr e => cases hv
    | inl x =>
      cases hv
      refine b_if_eq (tgt := 15) (pc := 8) X dL_off_8 (by decide) hf (fun hf => ?_) (fun hf => ?_)
      · refine r_lconst (v := 0) (pc := 15) X dL_off_15 (by decide) ?_
        refine b_last (pc := 16) (G := fun _ s2 => some ((0 : Int32), s2)) X ce_70 (fun _ => ca_70 _ _) dL_off_16 hf (fun j1 s2 hf => ?_)
        refine r_goto (tgt := 28) (pc := 17) X dL_off_17 (by decide) ?_
        refine r_iconst (v := 0) (pc := 28) X dL_off_28 (by decide) ?_
        exact t_iret (pc := 29) X Y hf dL_off_29
      · refine r_lconst (v := 1) (pc := 11) X dL_off_11 (by decide) ?_
        refine r_goto (tgt := 16) (pc := 12) X dL_off_12 (by decide) ?_
        refine b_last (pc := 16) (G := fun _ s2 => some ((0 : Int32), s2)) X ce_70 (fun _ => ca_70 _ _) dL_off_16 hf (fun j1 s2 hf => ?_)
        refine r_goto (tgt := 28) (pc := 17) X dL_off_17 (by decide) ?_
        refine r_iconst (v := 0) (pc := 28) X dL_off_28 (by decide) ?_
        exact t_iret (pc := 29) X Y hf dL_off_29
  · cases x with
    | inl v => cases hE
    | inr e =>
      obtain rfl : exN e = E := Sum.inr.inj hE
      by_cases he : e = 2
      · subst he
        have hf := ifp hf rfl
        cases hf
        exact t_catch X Y a1 a2 a3 a5 a6 a7 [] [(0, 17, 24, 13)] rfl (fun z hz => nomatch hz) (by decide) (by decide) w_823 cst_2 (t_hand (hp := 20) X Y a4 (by decide) a1 a2 a3 dL_off_20 dL_off_22 (by decide) dL_off_23)
      have hf := ifn hf he
      by_cases he : e = 0
      · subst he
        have hf := ifp hf rfl
        cases hf
        exact t_catch X Y a1 a2 a3 a5 a6 a7 [(0, 17, 20, 40)] [] rfl (List.forall_mem_cons.mpr ⟨⟨by decide, _, w_823, by decide +kernel⟩, (List.forall_mem_nil _)⟩) (by decide) (by decide) w_494 cst_0 (t_hand (hp := 24) X Y a4 (by decide) a1 a2 a3 dL_off_24 dL_off_26 (by decide) dL_off_27)
      have hf := ifn hf he
      cases hf
def f_L_swap (F : Nat) (s : St) (p1 : Int32) (p2 : Int32) : Option (Int32 × St) :=
  (f_P_swap F (sz s + 64) s p1 p2).bind fun x => match x.1 with
  | .inl _ => some (0, x.2)
  | .inr e => if e = 0 then some (1, x.2) else (if e = 1 then some (2, x.2) else none)
set_option maxHeartbeats 1000000 in
theorem c_L_swap {F : Nat} {s : St} {p1 : Int32} {p2 : Int32} {r : Int32} {s' : St} (hf : f_L_swap F s p1 p2 = some (r, s')) : CW yL_swap (Cond.codeWith yL_swap cL_swap 4 (some .int) [(0, 6, 9, 13), (0, 6, 12, 15)]) 7 114 (fun B => [.ref (B + 0), .int p1, .int p2]) s r s' := by
  refine CW.of (fun B => [(0, .ref (B + 0)), (1, .int p1), (2, .int p2)]) (by decide +kernel) (fun _ => rfl) (fun _ => (by simp [lg_sl, rfB_cat, catI, catL, catR])) (fun Γ D B X Y => ?_)
  have X : Cx Γ RL cL_swap 4 D B (RW 7 114) := X
  unfold f_L_swap at hf
  refine bnd hf (fun x1 h1 hf => ?_)
  obtain ⟨x, s1⟩ := x1
  refine r_aload_n (x := some 0) (pc := 0) X dL_swap_0 0 rfl ?_
  refine r_iload_n (pc := 1) X dL_swap_1 1 rfl ?_
  refine r_iload_n (pc := 2) X dL_swap_2 2 rfl ?_
  refine t_call (As := [.int p1, .int p2]) (st := []) (pc := 3) X Y (c_f_P_swap h1) rfl w_857 w_858 w_859 w_74 w_860 hdV_X10_swap (Rc.s rfl ce_0) (by decide) (Nat.le_of_ble_eq_true rfl) dL_swap_3 rfl (fun v hv => ?_) (fun E hE H1 locs1 ls n9 ce q9 a1 a2 a3 a4 a5 a6 a7 => ?_)
  · cases x with
    | inr e => cases hv
    | inl x =>
      cases hv
      refine r_goto (tgt := 15) (pc := 6) X dL_swap_6 (by decide) ?_
      refine r_iconst (v := 0) (pc := 15) X dL_swap_15 (by decide) ?_
      exact t_iret (pc := 16) X Y hf dL_swap_16
  · cases x with
    | inl v => cases hE
    | inr e =>
      obtain rfl : exN e = E := Sum.inr.inj hE
      by_cases he : e = 0
      · subst he
        have hf := ifp hf rfl
        cases hf
        exact t_catch X Y a1 a2 a3 a5 a6 a7 [] [(0, 6, 12, 15)] rfl (fun z hz => nomatch hz) (by decide) (by decide) w_494 cst_0 (t_hand_n (hp := 9) X Y a4 (by decide) a1 a2 a3 dL_swap_9 dL_swap_10 (by decide) dL_swap_11)
      have hf := ifn hf he
      by_cases he : e = 1
      · subst he
        have hf := ifp hf rfl
        cases hf
        exact t_catch X Y a1 a2 a3 a5 a6 a7 [(0, 6, 9, 13)] [] rfl (List.forall_mem_cons.mpr ⟨⟨by decide, _, w_494, by decide +kernel⟩, (List.forall_mem_nil _)⟩) (by decide) (by decide) w_495 cst_1 (t_hand_n (hp := 12) X Y a4 (by decide) a1 a2 a3 dL_swap_12 dL_swap_13 (by decide) dL_swap_14)
      have hf := ifn hf he
      cases hf
def f_L_planned (F : Nat) (s : St) (p1 : Int32) : Option (Int32 × St) :=
  (f_P_planned F (sz s + 64) s p1).bind fun x => match x.1 with
  | .inl v => some (0, sJ x.2 70 0 v.toInt64)
  | .inr e => if e = 0 then some (1, x.2) else none
set_option maxHeartbeats 1000000 in
theorem c_L_planned {F : Nat} {s : St} {p1 : Int32} {r : Int32} {s' : St} (hf : f_L_planned F s p1 = some (r, s')) : CW yL_planned (Cond.codeWith yL_planned cL_planned 4 (some .int) [(0, 9, 12, 13)]) 7 111 (fun B => [.ref (B + 0), .int p1, .ref (B + 70)]) s r s' := by
  refine CW.of (fun B => [(0, .ref (B + 0)), (1, .int p1), (2, .ref (B + 70))]) (by decide +kernel) (fun _ => rfl) (fun _ => (by simp [lg_sl, rfB_cat, catI, catL, catR])) (fun Γ D B X Y => ?_)
  have X : Cx Γ RL cL_planned 4 D B (RW 7 111) := X
  unfold f_L_planned at hf
  refine bnd hf (fun x1 h1 hf => ?_)
  obtain ⟨x, s1⟩ := x1
  refine r_aload_n (x := some 70) (pc := 0) X dL_planned_0 2 rfl ?_
  refine r_iconst (v := 0) (pc := 1) X dL_planned_1 (by decide) ?_
  refine r_aload_n (x := some 0) (pc := 2) X dL_planned_2 0 rfl ?_
  refine r_iload_n (pc := 3) X dL_planned_3 1 rfl ?_
  refine t_call (As := [.int p1]) (st := [.int 0, .ref (B + 70)]) (pc := 4) X Y (c_f_P_planned h1) rfl w_872 w_873 w_874 w_74 w_875 hdV_X10_planned (Rc.s rfl ce_0) (by decide) (Nat.le_of_ble_eq_true rfl) dL_planned_4 rfl (fun v hv => ?_) (fun E hE H1 locs1 ls n9 ce q9 a1 a2 a3 a4 a5 a6 a7 => ?_)
  · cases x with
    | inr e => cases hv
    | inl x =>
      cases hv
      refine r_i2l (pc := 7) X dL_planned_7 ?_
      refine b_last (pc := 8) (G := fun _ s2 => some ((0 : Int32), s2)) X ce_70 (fun _ => ca_70 _ _) dL_planned_8 hf (fun j1 s2 hf => ?_)
      refine r_goto (tgt := 15) (pc := 9) X dL_planned_9 (by decide) ?_
      refine r_iconst (v := 0) (pc := 15) X dL_planned_15 (by decide) ?_
      exact t_iret (pc := 16) X Y hf dL_planned_16
  · cases x with
    | inl v => cases hE
    | inr e =>
      obtain rfl : exN e = E := Sum.inr.inj hE
      by_cases he : e = 0
      · subst he
        have hf := ifp hf rfl
        cases hf
        exact t_catch X Y a1 a2 a3 a5 a6 a7 [] [] rfl (fun z hz => nomatch hz) (by decide) (by decide) w_494 cst_0 (t_hand_n (hp := 12) X Y a4 (by decide) a1 a2 a3 dL_planned_12 dL_planned_13 (by decide) dL_planned_14)
      have hf := ifn hf he
      cases hf
def f_L_holder (F : Nat) (s : St) (p1 : Int32) : Option (Int32 × St) :=
  (f_P_holder F (sz s + 64) s p1).bind fun x => match x.1 with
  | .inl v => some (0, sJ x.2 70 0 v.toInt64)
  | .inr e => if e = 0 then some (1, x.2) else none
set_option maxHeartbeats 1000000 in
theorem c_L_holder {F : Nat} {s : St} {p1 : Int32} {r : Int32} {s' : St} (hf : f_L_holder F s p1 = some (r, s')) : CW yL_holder (Cond.codeWith yL_holder cL_holder 4 (some .int) [(0, 9, 12, 13)]) 7 111 (fun B => [.ref (B + 0), .int p1, .ref (B + 70)]) s r s' := by
  refine CW.of (fun B => [(0, .ref (B + 0)), (1, .int p1), (2, .ref (B + 70))]) (by decide +kernel) (fun _ => rfl) (fun _ => (by simp [lg_sl, rfB_cat, catI, catL, catR])) (fun Γ D B X Y => ?_)
  have X : Cx Γ RL cL_holder 4 D B (RW 7 111) := X
  unfold f_L_holder at hf
  refine bnd hf (fun x1 h1 hf => ?_)
  obtain ⟨x, s1⟩ := x1
  refine r_aload_n (x := some 70) (pc := 0) X dL_holder_0 2 rfl ?_
  refine r_iconst (v := 0) (pc := 1) X dL_holder_1 (by decide) ?_
  refine r_aload_n (x := some 0) (pc := 2) X dL_holder_2 0 rfl ?_
  refine r_iload_n (pc := 3) X dL_holder_3 1 rfl ?_
  refine t_call (As := [.int p1]) (st := [.int 0, .ref (B + 70)]) (pc := 4) X Y (c_f_P_holder h1) rfl w_879 w_880 w_881 w_74 w_882 hdV_X10_holder (Rc.s rfl ce_0) (by decide) (Nat.le_of_ble_eq_true rfl) dL_holder_4 rfl (fun v hv => ?_) (fun E hE H1 locs1 ls n9 ce q9 a1 a2 a3 a4 a5 a6 a7 => ?_)
  · cases x with
    | inr e => cases hv
    | inl x =>
      cases hv
      refine r_i2l (pc := 7) X dL_holder_7 ?_
      refine b_last (pc := 8) (G := fun _ s2 => some ((0 : Int32), s2)) X ce_70 (fun _ => ca_70 _ _) dL_holder_8 hf (fun j1 s2 hf => ?_)
      refine r_goto (tgt := 15) (pc := 9) X dL_holder_9 (by decide) ?_
      refine r_iconst (v := 0) (pc := 15) X dL_holder_15 (by decide) ?_
      exact t_iret (pc := 16) X Y hf dL_holder_16
  · cases x with
    | inl v => cases hE
    | inr e =>
      obtain rfl : exN e = E := Sum.inr.inj hE
      by_cases he : e = 0
      · subst he
        have hf := ifp hf rfl
        cases hf
        exact t_catch X Y a1 a2 a3 a5 a6 a7 [] [] rfl (fun z hz => nomatch hz) (by decide) (by decide) w_494 cst_0 (t_hand_n (hp := 12) X Y a4 (by decide) a1 a2 a3 dL_holder_12 dL_holder_13 (by decide) dL_holder_14)
      have hf := ifn hf he
      cases hf
def f_L_nights (F : Nat) (s : St) (p1 : Int32) : Option (Int32 × St) :=
  (f_P_nights F (sz s + 64) s p1).bind fun x => match x.1 with
  | .inl v => some (0, sJ x.2 70 0 v.toInt64)
  | .inr e => if e = 2 then some (1, x.2) else none
set_option maxHeartbeats 1000000 in
theorem c_L_nights {F : Nat} {s : St} {p1 : Int32} {r : Int32} {s' : St} (hf : f_L_nights F s p1 = some (r, s')) : CW yL_nights (Cond.codeWith yL_nights cL_nights 4 (some .int) [(0, 9, 12, 40)]) 7 111 (fun B => [.ref (B + 0), .int p1, .ref (B + 70)]) s r s' := by
  refine CW.of (fun B => [(0, .ref (B + 0)), (1, .int p1), (2, .ref (B + 70))]) (by decide +kernel) (fun _ => rfl) (fun _ => (by simp [lg_sl, rfB_cat, catI, catL, catR])) (fun Γ D B X Y => ?_)
  have X : Cx Γ RL cL_nights 4 D B (RW 7 111) := X
  unfold f_L_nights at hf
  refine bnd hf (fun x1 h1 hf => ?_)
  obtain ⟨x, s1⟩ := x1
  refine r_aload_n (x := some 70) (pc := 0) X dL_nights_0 2 rfl ?_
  refine r_iconst (v := 0) (pc := 1) X dL_nights_1 (by decide) ?_
  refine r_aload_n (x := some 0) (pc := 2) X dL_nights_2 0 rfl ?_
  refine r_iload_n (pc := 3) X dL_nights_3 1 rfl ?_
  refine t_call (As := [.int p1]) (st := [.int 0, .ref (B + 70)]) (pc := 4) X Y (c_f_P_nights h1) rfl w_886 w_887 w_888 w_74 w_889 hdV_X10_nights (Rc.s rfl ce_0) (by decide) (Nat.le_of_ble_eq_true rfl) dL_nights_4 rfl (fun v hv => ?_) (fun E hE H1 locs1 ls n9 ce q9 a1 a2 a3 a4 a5 a6 a7 => ?_)
  · cases x with
    | inr e => cases hv
    | inl x =>
      cases hv
      refine r_i2l (pc := 7) X dL_nights_7 ?_
      refine b_last (pc := 8) (G := fun _ s2 => some ((0 : Int32), s2)) X ce_70 (fun _ => ca_70 _ _) dL_nights_8 hf (fun j1 s2 hf => ?_)
      refine r_goto (tgt := 15) (pc := 9) X dL_nights_9 (by decide) ?_
      refine r_iconst (v := 0) (pc := 15) X dL_nights_15 (by decide) ?_
      exact t_iret (pc := 16) X Y hf dL_nights_16
  · cases x with
    | inl v => cases hE
    | inr e =>
      obtain rfl : exN e = E := Sum.inr.inj hE
      by_cases he : e = 2
      · subst he
        have hf := ifp hf rfl
        cases hf
        exact t_catch X Y a1 a2 a3 a5 a6 a7 [] [] rfl (fun z hz => nomatch hz) (by decide) (by decide) w_823 cst_2 (t_hand_n (hp := 12) X Y a4 (by decide) a1 a2 a3 dL_nights_12 dL_nights_13 (by decide) dL_nights_14)
      have hf := ifn hf he
      cases hf
def f_L_owes (F : Nat) (s : St) (p1 : Int32) (p2 : Int32) : Option (Int32 × St) :=
  (f_P_owes F (sz s + 64) s p1 p2).bind fun x => match x.1 with
  | .inl v => some (0, sJ x.2 70 0 v.toInt64)
  | .inr e => if e = 2 then some (1, x.2) else none
set_option maxHeartbeats 1000000 in
theorem c_L_owes {F : Nat} {s : St} {p1 : Int32} {p2 : Int32} {r : Int32} {s' : St} (hf : f_L_owes F s p1 p2 = some (r, s')) : CW yL_owes (Cond.codeWith yL_owes cL_owes 5 (some .int) [(0, 10, 13, 40)]) 7 112 (fun B => [.ref (B + 0), .int p1, .int p2, .ref (B + 70)]) s r s' := by
  refine CW.of (fun B => [(0, .ref (B + 0)), (1, .int p1), (2, .int p2), (3, .ref (B + 70))]) (by decide +kernel) (fun _ => rfl) (fun _ => (by simp [lg_sl, rfB_cat, catI, catL, catR])) (fun Γ D B X Y => ?_)
  have X : Cx Γ RL cL_owes 5 D B (RW 7 112) := X
  unfold f_L_owes at hf
  refine bnd hf (fun x1 h1 hf => ?_)
  obtain ⟨x, s1⟩ := x1
  refine r_aload_n (x := some 70) (pc := 0) X dL_owes_0 3 rfl ?_
  refine r_iconst (v := 0) (pc := 1) X dL_owes_1 (by decide) ?_
  refine r_aload_n (x := some 0) (pc := 2) X dL_owes_2 0 rfl ?_
  refine r_iload_n (pc := 3) X dL_owes_3 1 rfl ?_
  refine r_iload_n (pc := 4) X dL_owes_4 2 rfl ?_
  refine t_call (As := [.int p1, .int p2]) (st := [.int 0, .ref (B + 70)]) (pc := 5) X Y (c_f_P_owes h1) rfl w_897 w_898 w_899 w_74 w_900 hdV_X10_owes (Rc.s rfl ce_0) (by decide) (Nat.le_of_ble_eq_true rfl) dL_owes_5 rfl (fun v hv => ?_) (fun E hE H1 locs1 ls n9 ce q9 a1 a2 a3 a4 a5 a6 a7 => ?_)
  · cases x with
    | inr e => cases hv
    | inl x =>
      cases hv
      refine r_i2l (pc := 8) X dL_owes_8 ?_
      refine b_last (pc := 9) (G := fun _ s2 => some ((0 : Int32), s2)) X ce_70 (fun _ => ca_70 _ _) dL_owes_9 hf (fun j1 s2 hf => ?_)
      refine r_goto (tgt := 17) (pc := 10) X dL_owes_10 (by decide) ?_
      refine r_iconst (v := 0) (pc := 17) X dL_owes_17 (by decide) ?_
      exact t_iret (pc := 18) X Y hf dL_owes_18
  · cases x with
    | inl v => cases hE
    | inr e =>
      obtain rfl : exN e = E := Sum.inr.inj hE
      by_cases he : e = 2
      · subst he
        have hf := ifp hf rfl
        cases hf
        exact t_catch X Y a1 a2 a3 a5 a6 a7 [] [] rfl (fun z hz => nomatch hz) (by decide) (by decide) w_823 cst_2 (t_hand (hp := 13) X Y a4 (by decide) a1 a2 a3 dL_owes_13 dL_owes_15 (by decide) dL_owes_16)
      have hf := ifn hf he
      cases hf
def f_L_addRule (F : Nat) (s : St) (p1 : Int32) (p2 : Int32) (p3 : Int32) : Option (Int32 × St) :=
  (f_P_addRule F (sz s + 64) s p1 p2 p3).bind fun x => match x.1 with
  | .inl v => some (0, sJ x.2 70 0 v.toInt64)
  | .inr e => if e = 2 then some (1, x.2) else (if e = 0 then some (2, x.2) else (if e = 1 then some (3, x.2) else none))
set_option maxHeartbeats 1000000 in
theorem c_L_addRule {F : Nat} {s : St} {p1 : Int32} {p2 : Int32} {p3 : Int32} {r : Int32} {s' : St} (hf : f_L_addRule F s p1 p2 p3 = some (r, s')) : CW yL_addRule (Cond.codeWith yL_addRule cL_addRule 6 (some .int) [(0, 12, 15, 40), (0, 12, 19, 13), (0, 12, 23, 15)]) 803 16474 (fun B => [.ref (B + 0), .int p1, .int p2, .int p3, .ref (B + 70)]) s r s' := by
  refine CW.of (fun B => [(0, .ref (B + 0)), (1, .int p1), (2, .int p2), (3, .int p3), (4, .ref (B + 70))]) (by decide +kernel) (fun _ => rfl) (fun _ => (by simp [lg_sl, rfB_cat, catI, catL, catR])) (fun Γ D B X Y => ?_)
  have X : Cx Γ RL cL_addRule 6 D B (RW 803 16474) := X
  unfold f_L_addRule at hf
  refine bnd hf (fun x1 h1 hf => ?_)
  obtain ⟨x, s1⟩ := x1
  refine r_aload (x := some 70) (pc := 0) X dL_addRule_0 4 rfl ?_
  refine r_iconst (v := 0) (pc := 2) X dL_addRule_2 (by decide) ?_
  refine r_aload_n (x := some 0) (pc := 3) X dL_addRule_3 0 rfl ?_
  refine r_iload_n (pc := 4) X dL_addRule_4 1 rfl ?_
  refine r_iload_n (pc := 5) X dL_addRule_5 2 rfl ?_
  refine r_iload_n (pc := 6) X dL_addRule_6 3 rfl ?_
  refine t_call (As := [.int p1, .int p2, .int p3]) (st := [.int 0, .ref (B + 70)]) (pc := 7) X Y (c_f_P_addRule h1) rfl w_908 w_909 w_910 w_74 w_911 hdV_X10_addRule (Rc.s rfl ce_0) (by decide) (Nat.le_of_ble_eq_true rfl) dL_addRule_7 rfl (fun v hv => ?_) (fun E hE H1 locs1 ls n9 ce q9 a1 a2 a3 a4 a5 a6 a7 => ?_)
  · cases x with
    | inr e => cases hv
    | inl x =>
      cases hv
      refine r_i2l (pc := 10) X dL_addRule_10 ?_
      refine b_last (pc := 11) (G := fun _ s2 => some ((0 : Int32), s2)) X ce_70 (fun _ => ca_70 _ _) dL_addRule_11 hf (fun j1 s2 hf => ?_)
      refine r_goto (tgt := 27) (pc := 12) X dL_addRule_12 (by decide) ?_
      refine r_iconst (v := 0) (pc := 27) X dL_addRule_27 (by decide) ?_
      exact t_iret (pc := 28) X Y hf dL_addRule_28
  · cases x with
    | inl v => cases hE
    | inr e =>
      obtain rfl : exN e = E := Sum.inr.inj hE
      by_cases he : e = 2
      · subst he
        have hf := ifp hf rfl
        cases hf
        exact t_catch X Y a1 a2 a3 a5 a6 a7 [] [(0, 12, 19, 13), (0, 12, 23, 15)] rfl (fun z hz => nomatch hz) (by decide) (by decide) w_823 cst_2 (t_hand (hp := 15) X Y a4 (by decide) a1 a2 a3 dL_addRule_15 dL_addRule_17 (by decide) dL_addRule_18)
      have hf := ifn hf he
      by_cases he : e = 0
      · subst he
        have hf := ifp hf rfl
        cases hf
        exact t_catch X Y a1 a2 a3 a5 a6 a7 [(0, 12, 15, 40)] [(0, 12, 23, 15)] rfl (List.forall_mem_cons.mpr ⟨⟨by decide, _, w_823, by decide +kernel⟩, (List.forall_mem_nil _)⟩) (by decide) (by decide) w_494 cst_0 (t_hand (hp := 19) X Y a4 (by decide) a1 a2 a3 dL_addRule_19 dL_addRule_21 (by decide) dL_addRule_22)
      have hf := ifn hf he
      by_cases he : e = 1
      · subst he
        have hf := ifp hf rfl
        cases hf
        exact t_catch X Y a1 a2 a3 a5 a6 a7 [(0, 12, 15, 40), (0, 12, 19, 13)] [] rfl (List.forall_mem_cons.mpr ⟨⟨by decide, _, w_823, by decide +kernel⟩, (List.forall_mem_cons.mpr ⟨⟨by decide, _, w_494, by decide +kernel⟩, (List.forall_mem_nil _)⟩)⟩) (by decide) (by decide) w_495 cst_1 (t_hand (hp := 23) X Y a4 (by decide) a1 a2 a3 dL_addRule_23 dL_addRule_25 (by decide) dL_addRule_26)
      have hf := ifn hf he
      cases hf
def f_L_drop (F : Nat) (s : St) (p1 : Int32) : Option (Int32 × St) :=
  (f_P_drop F (sz s + 64) s p1).bind fun x => match x.1 with
  | .inl v => some (0, sJ x.2 70 0 v.toInt64)
  | .inr e => if e = 2 then some (1, x.2) else (if e = 1 then some (2, x.2) else none)
set_option maxHeartbeats 1000000 in
theorem c_L_drop {F : Nat} {s : St} {p1 : Int32} {r : Int32} {s' : St} (hf : f_L_drop F s p1 = some (r, s')) : CW yL_drop (Cond.codeWith yL_drop cL_drop 4 (some .int) [(0, 9, 12, 40), (0, 9, 15, 15)]) 7 112 (fun B => [.ref (B + 0), .int p1, .ref (B + 70)]) s r s' := by
  refine CW.of (fun B => [(0, .ref (B + 0)), (1, .int p1), (2, .ref (B + 70))]) (by decide +kernel) (fun _ => rfl) (fun _ => (by simp [lg_sl, rfB_cat, catI, catL, catR])) (fun Γ D B X Y => ?_)
  have X : Cx Γ RL cL_drop 4 D B (RW 7 112) := X
  unfold f_L_drop at hf
  refine bnd hf (fun x1 h1 hf => ?_)
  obtain ⟨x, s1⟩ := x1
  refine r_aload_n (x := some 70) (pc := 0) X dL_drop_0 2 rfl ?_
  refine r_iconst (v := 0) (pc := 1) X dL_drop_1 (by decide) ?_
  refine r_aload_n (x := some 0) (pc := 2) X dL_drop_2 0 rfl ?_
  refine r_iload_n (pc := 3) X dL_drop_3 1 rfl ?_
  refine t_call (As := [.int p1]) (st := [.int 0, .ref (B + 70)]) (pc := 4) X Y (c_f_P_drop h1) rfl w_964 w_965 w_966 w_74 w_967 hdV_X10_drop (Rc.s rfl ce_0) (by decide) (Nat.le_of_ble_eq_true rfl) dL_drop_4 rfl (fun v hv => ?_) (fun E hE H1 locs1 ls n9 ce q9 a1 a2 a3 a4 a5 a6 a7 => ?_)
  · cases x with
    | inr e => cases hv
    | inl x =>
      cases hv
      refine r_i2l (pc := 7) X dL_drop_7 ?_
      refine b_last (pc := 8) (G := fun _ s2 => some ((0 : Int32), s2)) X ce_70 (fun _ => ca_70 _ _) dL_drop_8 hf (fun j1 s2 hf => ?_)
      refine r_goto (tgt := 18) (pc := 9) X dL_drop_9 (by decide) ?_
      refine r_iconst (v := 0) (pc := 18) X dL_drop_18 (by decide) ?_
      exact t_iret (pc := 19) X Y hf dL_drop_19
  · cases x with
    | inl v => cases hE
    | inr e =>
      obtain rfl : exN e = E := Sum.inr.inj hE
      by_cases he : e = 2
      · subst he
        have hf := ifp hf rfl
        cases hf
        exact t_catch X Y a1 a2 a3 a5 a6 a7 [] [(0, 9, 15, 15)] rfl (fun z hz => nomatch hz) (by decide) (by decide) w_823 cst_2 (t_hand_n (hp := 12) X Y a4 (by decide) a1 a2 a3 dL_drop_12 dL_drop_13 (by decide) dL_drop_14)
      have hf := ifn hf he
      by_cases he : e = 1
      · subst he
        have hf := ifp hf rfl
        cases hf
        exact t_catch X Y a1 a2 a3 a5 a6 a7 [(0, 9, 12, 40)] [] rfl (List.forall_mem_cons.mpr ⟨⟨by decide, _, w_823, by decide +kernel⟩, (List.forall_mem_nil _)⟩) (by decide) (by decide) w_495 cst_1 (t_hand_n (hp := 15) X Y a4 (by decide) a1 a2 a3 dL_drop_15 dL_drop_16 (by decide) dL_drop_17)
      have hf := ifn hf he
      cases hf
def f_L_silence (F : Nat) (s : St) (p1 : Int32) (p2 : Int32) (p3 : Int32) : Option (Int32 × St) :=
  (f_P_silence F (sz s + 64) s p1 p2 p3).bind fun x => match x.1 with
  | .inl v => some (0, sJ x.2 70 0 v.toInt64)
  | .inr e => if e = 2 then some (1, x.2) else (if e = 0 then some (2, x.2) else (if e = 1 then some (3, x.2) else none))
set_option maxHeartbeats 1000000 in
theorem c_L_silence {F : Nat} {s : St} {p1 : Int32} {p2 : Int32} {p3 : Int32} {r : Int32} {s' : St} (hf : f_L_silence F s p1 p2 p3 = some (r, s')) : CW yL_silence (Cond.codeWith yL_silence cL_silence 6 (some .int) [(0, 12, 15, 40), (0, 12, 19, 13), (0, 12, 23, 15)]) 7 114 (fun B => [.ref (B + 0), .int p1, .int p2, .int p3, .ref (B + 70)]) s r s' := by
  refine CW.of (fun B => [(0, .ref (B + 0)), (1, .int p1), (2, .int p2), (3, .int p3), (4, .ref (B + 70))]) (by decide +kernel) (fun _ => rfl) (fun _ => (by simp [lg_sl, rfB_cat, catI, catL, catR])) (fun Γ D B X Y => ?_)
  have X : Cx Γ RL cL_silence 6 D B (RW 7 114) := X
  unfold f_L_silence at hf
  refine bnd hf (fun x1 h1 hf => ?_)
  obtain ⟨x, s1⟩ := x1
  refine r_aload (x := some 70) (pc := 0) X dL_silence_0 4 rfl ?_
  refine r_iconst (v := 0) (pc := 2) X dL_silence_2 (by decide) ?_
  refine r_aload_n (x := some 0) (pc := 3) X dL_silence_3 0 rfl ?_
  refine r_iload_n (pc := 4) X dL_silence_4 1 rfl ?_
  refine r_iload_n (pc := 5) X dL_silence_5 2 rfl ?_
  refine r_iload_n (pc := 6) X dL_silence_6 3 rfl ?_
  refine t_call (As := [.int p1, .int p2, .int p3]) (st := [.int 0, .ref (B + 70)]) (pc := 7) X Y (c_f_P_silence h1) rfl w_973 w_974 w_975 w_74 w_976 hdV_X10_silence (Rc.s rfl ce_0) (by decide) (Nat.le_of_ble_eq_true rfl) dL_silence_7 rfl (fun v hv => ?_) (fun E hE H1 locs1 ls n9 ce q9 a1 a2 a3 a4 a5 a6 a7 => ?_)
  · cases x with
    | inr e => cases hv
    | inl x =>
      cases hv
      refine r_i2l (pc := 10) X dL_silence_10 ?_
      refine b_last (pc := 11) (G := fun _ s2 => some ((0 : Int32), s2)) X ce_70 (fun _ => ca_70 _ _) dL_silence_11 hf (fun j1 s2 hf => ?_)
      refine r_goto (tgt := 27) (pc := 12) X dL_silence_12 (by decide) ?_
      refine r_iconst (v := 0) (pc := 27) X dL_silence_27 (by decide) ?_
      exact t_iret (pc := 28) X Y hf dL_silence_28
  · cases x with
    | inl v => cases hE
    | inr e =>
      obtain rfl : exN e = E := Sum.inr.inj hE
      by_cases he : e = 2
      · subst he
        have hf := ifp hf rfl
        cases hf
        exact t_catch X Y a1 a2 a3 a5 a6 a7 [] [(0, 12, 19, 13), (0, 12, 23, 15)] rfl (fun z hz => nomatch hz) (by decide) (by decide) w_823 cst_2 (t_hand (hp := 15) X Y a4 (by decide) a1 a2 a3 dL_silence_15 dL_silence_17 (by decide) dL_silence_18)
      have hf := ifn hf he
      by_cases he : e = 0
      · subst he
        have hf := ifp hf rfl
        cases hf
        exact t_catch X Y a1 a2 a3 a5 a6 a7 [(0, 12, 15, 40)] [(0, 12, 23, 15)] rfl (List.forall_mem_cons.mpr ⟨⟨by decide, _, w_823, by decide +kernel⟩, (List.forall_mem_nil _)⟩) (by decide) (by decide) w_494 cst_0 (t_hand (hp := 19) X Y a4 (by decide) a1 a2 a3 dL_silence_19 dL_silence_21 (by decide) dL_silence_22)
      have hf := ifn hf he
      by_cases he : e = 1
      · subst he
        have hf := ifp hf rfl
        cases hf
        exact t_catch X Y a1 a2 a3 a5 a6 a7 [(0, 12, 15, 40), (0, 12, 19, 13)] [] rfl (List.forall_mem_cons.mpr ⟨⟨by decide, _, w_823, by decide +kernel⟩, (List.forall_mem_cons.mpr ⟨⟨by decide, _, w_494, by decide +kernel⟩, (List.forall_mem_nil _)⟩)⟩) (by decide) (by decide) w_495 cst_1 (t_hand (hp := 23) X Y a4 (by decide) a1 a2 a3 dL_silence_23 dL_silence_25 (by decide) dL_silence_26)
      have hf := ifn hf he
      cases hf
def f_L_inWindow (F : Nat) (s : St) (p1 : Int32) : Option (Int32 × St) :=
  (f_P_inWindow F (sz s + 64) s p1).bind fun x => match x.1 with
  | .inl v => some (0, sJ x.2 70 0 v.toInt64)
  | .inr e => if e = 2 then some (1, x.2) else none
set_option maxHeartbeats 1000000 in
theorem c_L_inWindow {F : Nat} {s : St} {p1 : Int32} {r : Int32} {s' : St} (hf : f_L_inWindow F s p1 = some (r, s')) : CW yL_inWindow (Cond.codeWith yL_inWindow cL_inWindow 4 (some .int) [(0, 9, 12, 40)]) 7 116 (fun B => [.ref (B + 0), .int p1, .ref (B + 70)]) s r s' := by
  refine CW.of (fun B => [(0, .ref (B + 0)), (1, .int p1), (2, .ref (B + 70))]) (by decide +kernel) (fun _ => rfl) (fun _ => (by simp [lg_sl, rfB_cat, catI, catL, catR])) (fun Γ D B X Y => ?_)
  have X : Cx Γ RL cL_inWindow 4 D B (RW 7 116) := X
  unfold f_L_inWindow at hf
  refine bnd hf (fun x1 h1 hf => ?_)
  obtain ⟨x, s1⟩ := x1
  refine r_aload_n (x := some 70) (pc := 0) X dL_inWindow_0 2 rfl ?_
  refine r_iconst (v := 0) (pc := 1) X dL_inWindow_1 (by decide) ?_
  refine r_aload_n (x := some 0) (pc := 2) X dL_inWindow_2 0 rfl ?_
  refine r_iload_n (pc := 3) X dL_inWindow_3 1 rfl ?_
  refine t_call (As := [.int p1]) (st := [.int 0, .ref (B + 70)]) (pc := 4) X Y (c_f_P_inWindow h1) rfl w_985 w_986 w_987 w_74 w_988 hdV_X10_inWindow (Rc.s rfl ce_0) (by decide) (Nat.le_of_ble_eq_true rfl) dL_inWindow_4 rfl (fun v hv => ?_) (fun E hE H1 locs1 ls n9 ce q9 a1 a2 a3 a4 a5 a6 a7 => ?_)
  · cases x with
    | inr e => cases hv
    | inl x =>
      cases hv
      refine r_i2l (pc := 7) X dL_inWindow_7 ?_
      refine b_last (pc := 8) (G := fun _ s2 => some ((0 : Int32), s2)) X ce_70 (fun _ => ca_70 _ _) dL_inWindow_8 hf (fun j1 s2 hf => ?_)
      refine r_goto (tgt := 15) (pc := 9) X dL_inWindow_9 (by decide) ?_
      refine r_iconst (v := 0) (pc := 15) X dL_inWindow_15 (by decide) ?_
      exact t_iret (pc := 16) X Y hf dL_inWindow_16
  · cases x with
    | inl v => cases hE
    | inr e =>
      obtain rfl : exN e = E := Sum.inr.inj hE
      by_cases he : e = 2
      · subst he
        have hf := ifp hf rfl
        cases hf
        exact t_catch X Y a1 a2 a3 a5 a6 a7 [] [] rfl (fun z hz => nomatch hz) (by decide) (by decide) w_823 cst_2 (t_hand_n (hp := 12) X Y a4 (by decide) a1 a2 a3 dL_inWindow_12 dL_inWindow_13 (by decide) dL_inWindow_14)
      have hf := ifn hf he
      cases hf
def f_L_rises (F : Nat) (s : St) (p1 : Int32) : Option (Int32 × St) :=
  (f_P_rises F (sz s + 64) s p1).bind fun x => match x.1 with
  | .inl v => some (0, sJ x.2 70 0 v.toInt64)
  | .inr e => if e = 2 then some (1, x.2) else none
set_option maxHeartbeats 1000000 in
theorem c_L_rises {F : Nat} {s : St} {p1 : Int32} {r : Int32} {s' : St} (hf : f_L_rises F s p1 = some (r, s')) : CW yL_rises (Cond.codeWith yL_rises cL_rises 4 (some .int) [(0, 9, 12, 40)]) 7 112 (fun B => [.ref (B + 0), .int p1, .ref (B + 70)]) s r s' := by
  refine CW.of (fun B => [(0, .ref (B + 0)), (1, .int p1), (2, .ref (B + 70))]) (by decide +kernel) (fun _ => rfl) (fun _ => (by simp [lg_sl, rfB_cat, catI, catL, catR])) (fun Γ D B X Y => ?_)
  have X : Cx Γ RL cL_rises 4 D B (RW 7 112) := X
  unfold f_L_rises at hf
  refine bnd hf (fun x1 h1 hf => ?_)
  obtain ⟨x, s1⟩ := x1
  refine r_aload_n (x := some 70) (pc := 0) X dL_rises_0 2 rfl ?_
  refine r_iconst (v := 0) (pc := 1) X dL_rises_1 (by decide) ?_
  refine r_aload_n (x := some 0) (pc := 2) X dL_rises_2 0 rfl ?_
  refine r_iload_n (pc := 3) X dL_rises_3 1 rfl ?_
  refine t_call (As := [.int p1]) (st := [.int 0, .ref (B + 70)]) (pc := 4) X Y (c_f_P_rises h1) rfl w_992 w_993 w_994 w_74 w_995 hdV_X10_rises (Rc.s rfl ce_0) (by decide) (Nat.le_of_ble_eq_true rfl) dL_rises_4 rfl (fun v hv => ?_) (fun E hE H1 locs1 ls n9 ce q9 a1 a2 a3 a4 a5 a6 a7 => ?_)
  · cases x with
    | inr e => cases hv
    | inl x =>
      cases hv
      refine r_i2l (pc := 7) X dL_rises_7 ?_
      refine b_last (pc := 8) (G := fun _ s2 => some ((0 : Int32), s2)) X ce_70 (fun _ => ca_70 _ _) dL_rises_8 hf (fun j1 s2 hf => ?_)
      refine r_goto (tgt := 15) (pc := 9) X dL_rises_9 (by decide) ?_
      refine r_iconst (v := 0) (pc := 15) X dL_rises_15 (by decide) ?_
      exact t_iret (pc := 16) X Y hf dL_rises_16
  · cases x with
    | inl v => cases hE
    | inr e =>
      obtain rfl : exN e = E := Sum.inr.inj hE
      by_cases he : e = 2
      · subst he
        have hf := ifp hf rfl
        cases hf
        exact t_catch X Y a1 a2 a3 a5 a6 a7 [] [] rfl (fun z hz => nomatch hz) (by decide) (by decide) w_823 cst_2 (t_hand_n (hp := 12) X Y a4 (by decide) a1 a2 a3 dL_rises_12 dL_rises_13 (by decide) dL_rises_14)
      have hf := ifn hf he
      cases hf
def f_L_risesAnew (F : Nat) (s : St) (p1 : Int32) : Option (Int32 × St) :=
  (f_P_risesAnew F (sz s + 64) s p1).bind fun x => match x.1 with
  | .inl v => some (0, sJ x.2 70 0 v.toInt64)
  | .inr e => if e = 2 then some (1, x.2) else none
set_option maxHeartbeats 1000000 in
theorem c_L_risesAnew {F : Nat} {s : St} {p1 : Int32} {r : Int32} {s' : St} (hf : f_L_risesAnew F s p1 = some (r, s')) : CW yL_risesAnew (Cond.codeWith yL_risesAnew cL_risesAnew 4 (some .int) [(0, 9, 12, 40)]) 204 4695 (fun B => [.ref (B + 0), .int p1, .ref (B + 70)]) s r s' := by
  refine CW.of (fun B => [(0, .ref (B + 0)), (1, .int p1), (2, .ref (B + 70))]) (by decide +kernel) (fun _ => rfl) (fun _ => (by simp [lg_sl, rfB_cat, catI, catL, catR])) (fun Γ D B X Y => ?_)
  have X : Cx Γ RL cL_risesAnew 4 D B (RW 204 4695) := X
  unfold f_L_risesAnew at hf
  refine bnd hf (fun x1 h1 hf => ?_)
  obtain ⟨x, s1⟩ := x1
  refine r_aload_n (x := some 70) (pc := 0) X dL_risesAnew_0 2 rfl ?_
  refine r_iconst (v := 0) (pc := 1) X dL_risesAnew_1 (by decide) ?_
  refine r_aload_n (x := some 0) (pc := 2) X dL_risesAnew_2 0 rfl ?_
  refine r_iload_n (pc := 3) X dL_risesAnew_3 1 rfl ?_
  refine t_call (As := [.int p1]) (st := [.int 0, .ref (B + 70)]) (pc := 4) X Y (c_f_P_risesAnew h1) rfl w_999 w_1000 w_1001 w_74 w_1002 hdV_X10_risesAnew (Rc.s rfl ce_0) (by decide) (Nat.le_of_ble_eq_true rfl) dL_risesAnew_4 rfl (fun v hv => ?_) (fun E hE H1 locs1 ls n9 ce q9 a1 a2 a3 a4 a5 a6 a7 => ?_)
  · cases x with
    | inr e => cases hv
    | inl x =>
      cases hv
      refine r_i2l (pc := 7) X dL_risesAnew_7 ?_
      refine b_last (pc := 8) (G := fun _ s2 => some ((0 : Int32), s2)) X ce_70 (fun _ => ca_70 _ _) dL_risesAnew_8 hf (fun j1 s2 hf => ?_)
      refine r_goto (tgt := 15) (pc := 9) X dL_risesAnew_9 (by decide) ?_
      refine r_iconst (v := 0) (pc := 15) X dL_risesAnew_15 (by decide) ?_
      exact t_iret (pc := 16) X Y hf dL_risesAnew_16
  · cases x with
    | inl v => cases hE
    | inr e =>
      obtain rfl : exN e = E := Sum.inr.inj hE
      by_cases he : e = 2
      · subst he
        have hf := ifp hf rfl
        cases hf
        exact t_catch X Y a1 a2 a3 a5 a6 a7 [] [] rfl (fun z hz => nomatch hz) (by decide) (by decide) w_823 cst_2 (t_hand_n (hp := 12) X Y a4 (by decide) a1 a2 a3 dL_risesAnew_12 dL_risesAnew_13 (by decide) dL_risesAnew_14)
      have hf := ifn hf he
      cases hf
def f_L_alarm (F : Nat) (s : St) (p1 : Int32) : Option (Int32 × St) :=
  (f_P_alarm F (sz s + 64) s p1).bind fun x => match x.1 with
  | .inl v => some (0, sJ x.2 70 0 v.toInt64)
  | .inr e => if e = 2 then some (1, x.2) else none
set_option maxHeartbeats 1000000 in
theorem c_L_alarm {F : Nat} {s : St} {p1 : Int32} {r : Int32} {s' : St} (hf : f_L_alarm F s p1 = some (r, s')) : CW yL_alarm (Cond.codeWith yL_alarm cL_alarm 4 (some .int) [(0, 9, 12, 40)]) 7 111 (fun B => [.ref (B + 0), .int p1, .ref (B + 70)]) s r s' := by
  refine CW.of (fun B => [(0, .ref (B + 0)), (1, .int p1), (2, .ref (B + 70))]) (by decide +kernel) (fun _ => rfl) (fun _ => (by simp [lg_sl, rfB_cat, catI, catL, catR])) (fun Γ D B X Y => ?_)
  have X : Cx Γ RL cL_alarm 4 D B (RW 7 111) := X
  unfold f_L_alarm at hf
  refine bnd hf (fun x1 h1 hf => ?_)
  obtain ⟨x, s1⟩ := x1
  refine r_aload_n (x := some 70) (pc := 0) X dL_alarm_0 2 rfl ?_
  refine r_iconst (v := 0) (pc := 1) X dL_alarm_1 (by decide) ?_
  refine r_aload_n (x := some 0) (pc := 2) X dL_alarm_2 0 rfl ?_
  refine r_iload_n (pc := 3) X dL_alarm_3 1 rfl ?_
  refine t_call (As := [.int p1]) (st := [.int 0, .ref (B + 70)]) (pc := 4) X Y (c_f_P_alarm h1) rfl w_1006 w_1007 w_1008 w_74 w_1009 hdV_X10_alarm (Rc.s rfl ce_0) (by decide) (Nat.le_of_ble_eq_true rfl) dL_alarm_4 rfl (fun v hv => ?_) (fun E hE H1 locs1 ls n9 ce q9 a1 a2 a3 a4 a5 a6 a7 => ?_)
  · cases x with
    | inr e => cases hv
    | inl x =>
      cases hv
      refine r_i2l (pc := 7) X dL_alarm_7 ?_
      refine b_last (pc := 8) (G := fun _ s2 => some ((0 : Int32), s2)) X ce_70 (fun _ => ca_70 _ _) dL_alarm_8 hf (fun j1 s2 hf => ?_)
      refine r_goto (tgt := 15) (pc := 9) X dL_alarm_9 (by decide) ?_
      refine r_iconst (v := 0) (pc := 15) X dL_alarm_15 (by decide) ?_
      exact t_iret (pc := 16) X Y hf dL_alarm_16
  · cases x with
    | inl v => cases hE
    | inr e =>
      obtain rfl : exN e = E := Sum.inr.inj hE
      by_cases he : e = 2
      · subst he
        have hf := ifp hf rfl
        cases hf
        exact t_catch X Y a1 a2 a3 a5 a6 a7 [] [] rfl (fun z hz => nomatch hz) (by decide) (by decide) w_823 cst_2 (t_hand_n (hp := 12) X Y a4 (by decide) a1 a2 a3 dL_alarm_12 dL_alarm_13 (by decide) dL_alarm_14)
      have hf := ifn hf he
      cases hf
def f_L_woken (F : Nat) (s : St) (p1 : Int32) : Option (Int32 × St) :=
  (f_P_woken F (sz s + 64) s p1).bind fun x => match x.1 with
  | .inl v => some (0, sJ x.2 70 0 v.toInt64)
  | .inr e => if e = 2 then some (1, x.2) else none
set_option maxHeartbeats 1000000 in
theorem c_L_woken {F : Nat} {s : St} {p1 : Int32} {r : Int32} {s' : St} (hf : f_L_woken F s p1 = some (r, s')) : CW yL_woken (Cond.codeWith yL_woken cL_woken 4 (some .int) [(0, 9, 12, 40)]) 7 111 (fun B => [.ref (B + 0), .int p1, .ref (B + 70)]) s r s' := by
  refine CW.of (fun B => [(0, .ref (B + 0)), (1, .int p1), (2, .ref (B + 70))]) (by decide +kernel) (fun _ => rfl) (fun _ => (by simp [lg_sl, rfB_cat, catI, catL, catR])) (fun Γ D B X Y => ?_)
  have X : Cx Γ RL cL_woken 4 D B (RW 7 111) := X
  unfold f_L_woken at hf
  refine bnd hf (fun x1 h1 hf => ?_)
  obtain ⟨x, s1⟩ := x1
  refine r_aload_n (x := some 70) (pc := 0) X dL_woken_0 2 rfl ?_
  refine r_iconst (v := 0) (pc := 1) X dL_woken_1 (by decide) ?_
  refine r_aload_n (x := some 0) (pc := 2) X dL_woken_2 0 rfl ?_
  refine r_iload_n (pc := 3) X dL_woken_3 1 rfl ?_
  refine t_call (As := [.int p1]) (st := [.int 0, .ref (B + 70)]) (pc := 4) X Y (c_f_P_woken h1) rfl w_1018 w_1019 w_1020 w_74 w_1021 hdV_X10_woken (Rc.s rfl ce_0) (by decide) (Nat.le_of_ble_eq_true rfl) dL_woken_4 rfl (fun v hv => ?_) (fun E hE H1 locs1 ls n9 ce q9 a1 a2 a3 a4 a5 a6 a7 => ?_)
  · cases x with
    | inr e => cases hv
    | inl x =>
      cases hv
      refine r_i2l (pc := 7) X dL_woken_7 ?_
      refine b_last (pc := 8) (G := fun _ s2 => some ((0 : Int32), s2)) X ce_70 (fun _ => ca_70 _ _) dL_woken_8 hf (fun j1 s2 hf => ?_)
      refine r_goto (tgt := 15) (pc := 9) X dL_woken_9 (by decide) ?_
      refine r_iconst (v := 0) (pc := 15) X dL_woken_15 (by decide) ?_
      exact t_iret (pc := 16) X Y hf dL_woken_16
  · cases x with
    | inl v => cases hE
    | inr e =>
      obtain rfl : exN e = E := Sum.inr.inj hE
      by_cases he : e = 2
      · subst he
        have hf := ifp hf rfl
        cases hf
        exact t_catch X Y a1 a2 a3 a5 a6 a7 [] [] rfl (fun z hz => nomatch hz) (by decide) (by decide) w_823 cst_2 (t_hand_n (hp := 12) X Y a4 (by decide) a1 a2 a3 dL_woken_12 dL_woken_13 (by decide) dL_woken_14)
      have hf := ifn hf he
      cases hf
def f_L_wokenAt (F : Nat) (s : St) (p1 : Int32) : Option (Int32 × St) :=
  (f_P_wokenAt F (sz s + 64) s p1).bind fun x => match x.1 with
  | .inl v => some (0, sJ x.2 70 0 v.toInt64)
  | .inr e => if e = 2 then some (1, x.2) else (if e = 3 then some (2, x.2) else none)
set_option maxHeartbeats 1000000 in
theorem c_L_wokenAt {F : Nat} {s : St} {p1 : Int32} {r : Int32} {s' : St} (hf : f_L_wokenAt F s p1 = some (r, s')) : CW yL_wokenAt (Cond.codeWith yL_wokenAt cL_wokenAt 4 (some .int) [(0, 9, 12, 40), (0, 9, 15, 87)]) 7 111 (fun B => [.ref (B + 0), .int p1, .ref (B + 70)]) s r s' := by
  refine CW.of (fun B => [(0, .ref (B + 0)), (1, .int p1), (2, .ref (B + 70))]) (by decide +kernel) (fun _ => rfl) (fun _ => (by simp [lg_sl, rfB_cat, catI, catL, catR])) (fun Γ D B X Y => ?_)
  have X : Cx Γ RL cL_wokenAt 4 D B (RW 7 111) := X
  unfold f_L_wokenAt at hf
  refine bnd hf (fun x1 h1 hf => ?_)
  obtain ⟨x, s1⟩ := x1
  refine r_aload_n (x := some 70) (pc := 0) X dL_wokenAt_0 2 rfl ?_
  refine r_iconst (v := 0) (pc := 1) X dL_wokenAt_1 (by decide) ?_
  refine r_aload_n (x := some 0) (pc := 2) X dL_wokenAt_2 0 rfl ?_
  refine r_iload_n (pc := 3) X dL_wokenAt_3 1 rfl ?_
  refine t_call (As := [.int p1]) (st := [.int 0, .ref (B + 70)]) (pc := 4) X Y (c_f_P_wokenAt h1) rfl w_1030 w_1031 w_1032 w_74 w_1033 hdV_X10_wokenAt (Rc.s rfl ce_0) (by decide) (Nat.le_of_ble_eq_true rfl) dL_wokenAt_4 rfl (fun v hv => ?_) (fun E hE H1 locs1 ls n9 ce q9 a1 a2 a3 a4 a5 a6 a7 => ?_)
  · cases x with
    | inr e => cases hv
    | inl x =>
      cases hv
      refine r_i2l (pc := 7) X dL_wokenAt_7 ?_
      refine b_last (pc := 8) (G := fun _ s2 => some ((0 : Int32), s2)) X ce_70 (fun _ => ca_70 _ _) dL_wokenAt_8 hf (fun j1 s2 hf => ?_)
      refine r_goto (tgt := 18) (pc := 9) X dL_wokenAt_9 (by decide) ?_
      refine r_iconst (v := 0) (pc := 18) X dL_wokenAt_18 (by decide) ?_
      exact t_iret (pc := 19) X Y hf dL_wokenAt_19
  · cases x with
    | inl v => cases hE
    | inr e =>
      obtain rfl : exN e = E := Sum.inr.inj hE
      by_cases he : e = 2
      · subst he
        have hf := ifp hf rfl
        cases hf
        exact t_catch X Y a1 a2 a3 a5 a6 a7 [] [(0, 9, 15, 87)] rfl (fun z hz => nomatch hz) (by decide) (by decide) w_823 cst_2 (t_hand_n (hp := 12) X Y a4 (by decide) a1 a2 a3 dL_wokenAt_12 dL_wokenAt_13 (by decide) dL_wokenAt_14)
      have hf := ifn hf he
      by_cases he : e = 3
      · subst he
        have hf := ifp hf rfl
        cases hf
        exact t_catch X Y a1 a2 a3 a5 a6 a7 [(0, 9, 12, 40)] [] rfl (List.forall_mem_cons.mpr ⟨⟨by decide, _, w_823, by decide +kernel⟩, (List.forall_mem_nil _)⟩) (by decide) (by decide) w_1029 cst_3 (t_hand_n (hp := 15) X Y a4 (by decide) a1 a2 a3 dL_wokenAt_15 dL_wokenAt_16 (by decide) dL_wokenAt_17)
      have hf := ifn hf he
      cases hf
def f_L_answer (F : Nat) (s : St) (p1 : Int32) (p2 : Int32) : Option (Int32 × St) :=
  (f_P_answer F (sz s + 64) s p1 p2).bind fun x => match x.1 with
  | .inl v => some (0, sJ x.2 70 0 v.toInt64)
  | .inr e => if e = 2 then some (1, x.2) else (if e = 1 then some (2, x.2) else none)
set_option maxHeartbeats 1000000 in
theorem c_L_answer {F : Nat} {s : St} {p1 : Int32} {p2 : Int32} {r : Int32} {s' : St} (hf : f_L_answer F s p1 p2 = some (r, s')) : CW yL_answer (Cond.codeWith yL_answer cL_answer 5 (some .int) [(0, 10, 13, 40), (0, 10, 17, 15)]) 7 112 (fun B => [.ref (B + 0), .int p1, .int p2, .ref (B + 70)]) s r s' := by
  refine CW.of (fun B => [(0, .ref (B + 0)), (1, .int p1), (2, .int p2), (3, .ref (B + 70))]) (by decide +kernel) (fun _ => rfl) (fun _ => (by simp [lg_sl, rfB_cat, catI, catL, catR])) (fun Γ D B X Y => ?_)
  have X : Cx Γ RL cL_answer 5 D B (RW 7 112) := X
  unfold f_L_answer at hf
  refine bnd hf (fun x1 h1 hf => ?_)
  obtain ⟨x, s1⟩ := x1
  refine r_aload_n (x := some 70) (pc := 0) X dL_answer_0 3 rfl ?_
  refine r_iconst (v := 0) (pc := 1) X dL_answer_1 (by decide) ?_
  refine r_aload_n (x := some 0) (pc := 2) X dL_answer_2 0 rfl ?_
  refine r_iload_n (pc := 3) X dL_answer_3 1 rfl ?_
  refine r_iload_n (pc := 4) X dL_answer_4 2 rfl ?_
  refine t_call (As := [.int p1, .int p2]) (st := [.int 0, .ref (B + 70)]) (pc := 5) X Y (c_f_P_answer h1) rfl w_1053 w_1054 w_1055 w_74 w_1056 hdV_X10_answer (Rc.s rfl ce_0) (by decide) (Nat.le_of_ble_eq_true rfl) dL_answer_5 rfl (fun v hv => ?_) (fun E hE H1 locs1 ls n9 ce q9 a1 a2 a3 a4 a5 a6 a7 => ?_)
  · cases x with
    | inr e => cases hv
    | inl x =>
      cases hv
      refine r_i2l (pc := 8) X dL_answer_8 ?_
      refine b_last (pc := 9) (G := fun _ s2 => some ((0 : Int32), s2)) X ce_70 (fun _ => ca_70 _ _) dL_answer_9 hf (fun j1 s2 hf => ?_)
      refine r_goto (tgt := 21) (pc := 10) X dL_answer_10 (by decide) ?_
      refine r_iconst (v := 0) (pc := 21) X dL_answer_21 (by decide) ?_
      exact t_iret (pc := 22) X Y hf dL_answer_22
  · cases x with
    | inl v => cases hE
    | inr e =>
      obtain rfl : exN e = E := Sum.inr.inj hE
      by_cases he : e = 2
      · subst he
        have hf := ifp hf rfl
        cases hf
        exact t_catch X Y a1 a2 a3 a5 a6 a7 [] [(0, 10, 17, 15)] rfl (fun z hz => nomatch hz) (by decide) (by decide) w_823 cst_2 (t_hand (hp := 13) X Y a4 (by decide) a1 a2 a3 dL_answer_13 dL_answer_15 (by decide) dL_answer_16)
      have hf := ifn hf he
      by_cases he : e = 1
      · subst he
        have hf := ifp hf rfl
        cases hf
        exact t_catch X Y a1 a2 a3 a5 a6 a7 [(0, 10, 13, 40)] [] rfl (List.forall_mem_cons.mpr ⟨⟨by decide, _, w_823, by decide +kernel⟩, (List.forall_mem_nil _)⟩) (by decide) (by decide) w_495 cst_1 (t_hand (hp := 17) X Y a4 (by decide) a1 a2 a3 dL_answer_17 dL_answer_19 (by decide) dL_answer_20)
      have hf := ifn hf he
      cases hf
def f_L_wouldRise (F : Nat) (s : St) (p1 : Int32) : Option (Int32 × St) :=
  (f_P_wouldRise F (sz s + 64) s p1).bind fun x => match x.1 with
  | .inl v => (if v = 0 then some (0, sJ x.2 70 0 0) else some (0, sJ x.2 70 0 1))
  | .inr e => if e = 2 then some (1, x.2) else none
set_option maxHeartbeats 1000000 in
theorem c_L_wouldRise {F : Nat} {s : St} {p1 : Int32} {r : Int32} {s' : St} (hf : f_L_wouldRise F s p1 = some (r, s')) : CW yL_wouldRise (Cond.codeWith yL_wouldRise cL_wouldRise 4 (some .int) [(0, 16, 19, 40)]) 203 4668 (fun B => [.ref (B + 0), .int p1, .ref (B + 70)]) s r s' := by
  refine CW.of (fun B => [(0, .ref (B + 0)), (1, .int p1), (2, .ref (B + 70))]) (by decide +kernel) (fun _ => rfl) (fun _ => (by simp [lg_sl, rfB_cat, catI, catL, catR])) (fun Γ D B X Y => ?_)
  have X : Cx Γ RL cL_wouldRise 4 D B (RW 203 4668) := X
  unfold f_L_wouldRise at hf
  refine bnd hf (fun x1 h1 hf => ?_)
  obtain ⟨x, s1⟩ := x1
  refine r_aload_n (x := some 70) (pc := 0) X dL_wouldRise_0 2 rfl ?_
  refine r_iconst (v := 0) (pc := 1) X dL_wouldRise_1 (by decide) ?_
  refine r_aload_n (x := some 0) (pc := 2) X dL_wouldRise_2 0 rfl ?_
  refine r_iload_n (pc := 3) X dL_wouldRise_3 1 rfl ?_
  refine t_call (As := [.int p1]) (st := [.int 0, .ref (B + 70)]) (pc := 4) X Y (c_f_P_wouldRise h1) rfl w_1070 w_1071 w_1072 w_74 w_1073 hdV_X10_wouldRise (Rc.s rfl ce_0) (by decide) (Nat.le_of_ble_eq_true rfl) dL_wouldRise_4 rfl (fun v hv => ?_) (fun E hE H1 locs1 ls n9 ce q9 a1 a2 a3 a4 a5 a6 a7 => ?_)
  · cases x with
    | inr e => cases hv
    | inl x =>
      cases hv
      refine b_if_eq (tgt := 14) (pc := 7) X dL_wouldRise_7 (by decide) hf (fun hf => ?_) (fun hf => ?_)
      · refine r_lconst (v := 0) (pc := 14) X dL_wouldRise_14 (by decide) ?_
        refine b_last (pc := 15) (G := fun _ s2 => some ((0 : Int32), s2)) X ce_70 (fun _ => ca_70 _ _) dL_wouldRise_15 hf (fun j1 s2 hf => ?_)
        refine r_goto (tgt := 22) (pc := 16) X dL_wouldRise_16 (by decide) ?_
        refine r_iconst (v := 0) (pc := 22) X dL_wouldRise_22 (by decide) ?_
        exact t_iret (pc := 23) X Y hf dL_wouldRise_23
      · refine r_lconst (v := 1) (pc := 10) X dL_wouldRise_10 (by decide) ?_
        refine r_goto (tgt := 15) (pc := 11) X dL_wouldRise_11 (by decide) ?_
        refine b_last (pc := 15) (G := fun _ s2 => some ((0 : Int32), s2)) X ce_70 (fun _ => ca_70 _ _) dL_wouldRise_15 hf (fun j1 s2 hf => ?_)
        refine r_goto (tgt := 22) (pc := 16) X dL_wouldRise_16 (by decide) ?_
        refine r_iconst (v := 0) (pc := 22) X dL_wouldRise_22 (by decide) ?_
        exact t_iret (pc := 23) X Y hf dL_wouldRise_23
  · cases x with
    | inl v => cases hE
    | inr e =>
      obtain rfl : exN e = E := Sum.inr.inj hE
      by_cases he : e = 2
      · subst he
        have hf := ifp hf rfl
        cases hf
        exact t_catch X Y a1 a2 a3 a5 a6 a7 [] [] rfl (fun z hz => nomatch hz) (by decide) (by decide) w_823 cst_2 (t_hand_n (hp := 19) X Y a4 (by decide) a1 a2 a3 dL_wouldRise_19 dL_wouldRise_20 (by decide) dL_wouldRise_21)
      have hf := ifn hf he
      cases hf
