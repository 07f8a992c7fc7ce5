/-! THE CLAIM OUT OF ONE WALK OF THE LAW'S BODY. Your part is whole_start (and what it stands on); all else here is the same for every law, but numbers. -/
def R_law : String := "PagerloomLaw"
def lw_P (b : Addr) (xs : List Int32) (args : Array Value) (s : State) : Prop := args = #[.ref b] ∧ s.IntsAt b xs ∧ xs.length ≤ 260 ∧ (Jvm.Cond.and given_1 narrow_1).before args s = true
def lw_Q (_ : Array Value) (s : State) (o : Outcome) (t : State) : Prop := o = .returned (some (.int 1)) ∧ Framed s o t [] 694750 7017375
def lw_Z (below : List Frame) (a : Array Value) (s : State) : State → Prop := fun t => ∃ o, t.status = .running ∧ Ended t below o ∧ lw_Q a s o t
/-- the law's own end, with 1 on the stack, nothing written that was there before, its room as the claim has it -/
theorem lw_ret {p : Program} {l : Launch} {e : Env} {s : State} {m : MethodId} {below : List Frame} {meth : Method} {c : Code} {b : Nat} (hx : p.tables.exec = Jvm.exec) (hb : c.code = code) (hr : meth.sig.returnType = ret) (hlocks : meth.locks = false) {pc : Nat} {H : Heap} {ls : Array Slot} (hdg : decode code pc = .ok (.ireturn, 1)) : W p l e room_1 s m #[Value.ref b] below meth c H [] 694750 7017375 (lw_Z below #[Value.ref b] s) (F0 m pc ls [.int 1]) := by
  intro T hT X
  obtain ⟨fs, hret, hrun, hended, hW, hframe⟩ := X.leave (v := some (.int 1)) (hlocks := hlocks) (fun h => by rw [hr] at h; cases h)
  have hmeth' : T.vm.method? m = some meth := X.method'
  refine ⟨T.setFrames fs, ?_, .returned (some (.int 1)), hrun, hended, rfl, ⟨_, rfl⟩, hW, hframe⟩
  jvm_step X.here [X.here.top, hx, hb, hdg, hmeth', hr, ret, narrow_b1]
  (try refine ⟨rfl, ?_⟩); (try refine ⟨rfl, ?_⟩)
  first | (intro acts; rw [hret _ acts rfl rfl rfl]) | rw [hret _ _ rfl rfl rfl]
  exact Steps.refl _
/-- what holds at the law's entry: the machine, the code, the tables' words (any of lw_tbl by 'hts w (by decide +kernel)'), the script of L ints xs at the cell b, what the Statement gives of the start (any of its parts by flat_of_before) -/
def lw_At (p : Program) (s : State) (m : MethodId) (meth : Method) (c : Code) (b L : Nat) (xs : Nat → Int32) : Prop :=
  p.tables.exec = Jvm.exec ∧ c.code = code ∧ meth.sig.returnType = ret ∧ c.maxLocals = 19 ∧ s.vm.findClass R_law = some m.cls ∧ (∀ w ∈ lw_tbl, w.before #[Value.ref b] s = true) ∧ va_X b L xs s s.heap ∧ b < s.heap.size ∧ meth.locks = false ∧ (Jvm.Cond.and given_1 narrow_1).before #[Value.ref b] s = true
theorem w_57 : Cond.instantiable RX10 12 ∈ WT := WT_in (List.mem_of_getElem? (i := 57) (by decide +kernel)) (by decide +kernel)
theorem w_56 : Cond.classLink RL 10 RX10 ∈ WT := WT_in (List.mem_of_getElem? (i := 56) (by decide +kernel)) (by decide +kernel)
theorem w_58 : Cond.methodLink RL 176 yX10_init ∈ WT := WT_in (List.mem_of_getElem? (i := 58) (by decide +kernel)) (by decide +kernel)
theorem w_59 : Cond.instanceMethod yX10_init ∈ WT := WT_in (List.mem_of_getElem? (i := 59) (by decide +kernel)) (by decide +kernel)
theorem w_60 : Cond.code yX10_init cX10_init 1 none ∈ WT := WT_in (List.mem_of_getElem? (i := 60) (by decide +kernel)) (by decide +kernel)
theorem hdS_X10_init : yX10_init.cls ≠ "java/lang/invoke/MethodHandle" ∧ yX10_init.cls ≠ "java/lang/invoke/VarHandle" ∧ (parseMethodDescriptor yX10_init.desc).map (fun d => d.parameters.length) = some 0 := by decide +kernel
/-! from the law's entry to the loop -/
theorem KK_ex {s : State} {args : Array Value} (hw : ∀ w ∈ lw_tbl, w.before args s = true) : ∃ D : DD, KK D s ∧ va_AO RX6 s := by
  have hWT : ∀ w ∈ WT, w.before args s = true := fun w h => hw w (List.mem_filter.mp h).1
  have h0 : ∀ (c : Nat) (q : vw_C), vwCl[c]? = some q → ∃ (cC : ClassId) (iS : Nat → Nat), u_Kn s q.1 q.2.1 q.2.2 cC iS := by
    intro c q hq
    have hc : c < 11 := (List.getElem?_eq_some_iff.mp hq).1
    rcases (by omega : c = 0 ∨ c = 1 ∨ c = 2 ∨ c = 3 ∨ c = 4 ∨ c = 5 ∨ c = 6 ∨ c = 7 ∨ c = 8 ∨ c = 9 ∨ c = 10) with rfl | rfl | rfl | rfl | rfl | rfl | rfl | rfl | rfl | rfl | rfl
    · cases hq; exact u_known hWT inT0 (hWT _ w_145)
    · cases hq; exact u_known hWT inT1 (hWT _ w_197)
    · cases hq; exact u_known hWT inT2 (hWT _ w_67)
    · cases hq; exact u_known hWT inT3 (hWT _ w_652)
    · cases hq; exact u_known hWT inT4 (hWT _ w_181)
    · cases hq; exact u_known hWT inT5 (hWT _ w_112)
    · cases hq; exact u_known hWT inT6 (hWT _ w_711)
    · cases hq; exact u_known hWT inT7 (hWT _ w_262)
    · cases hq; exact u_known hWT inT8 (hWT _ w_230)
    · cases hq; exact u_known hWT inT9 (hWT _ w_224)
    · cases hq; exact u_known hWT inT10 (hWT _ w_57)
  have h1 : ∀ c : Nat, ∃ z : ClassId × (Nat → Nat), ∀ q : vw_C, vwCl[c]? = some q → u_Kn s q.1 q.2.1 q.2.2 z.1 z.2 := by
    intro c
    cases h : vwCl[c]? with
    | none => exact ⟨(0, fun _ => 0), fun q h => by cases h⟩
    | some q0 =>
      obtain ⟨cC, iS, h9⟩ := h0 c q0 h
      exact ⟨(cC, iS), fun q hq => by cases hq; exact h9⟩
  obtain ⟨g, hg⟩ := Classical.axiomOfChoice h1
  obtain ⟨c0, k0, p0, a0, b0, d0⟩ := Cond.arrayClass_spec (hWT _ w_109)
  obtain ⟨c1, k1, p1, a1, b1, d1⟩ := Cond.arrayClass_spec (hWT _ w_110)
  obtain ⟨c2, k2, p2, a2, b2, d2⟩ := Cond.arrayClass_spec (hWT _ w_279)
  obtain ⟨c3, k3, p3, a3, b3, d3⟩ := Cond.arrayClass_spec (hWT _ w_179)
  have hAO := hw _ (List.mem_of_getElem? (i := 65) (by decide +kernel) : Cond.arrayOver (.object RX6) ∈ lw_tbl)
  obtain ⟨p4, c4, k4, e4, -, b4, d4, a4⟩ := Cond.arrayOver_spec hAO
  refine ⟨((fun c => (g c).1, fun c => (g c).2), fun t => match t with | 0 => c0 | 1 => c1 | 2 => c2 | 3 => c3 | _ => c4), ⟨⟨fun c q hq => hg c q hq, fun k q hk => ?_⟩, fun a i x h hm => va_tabs rfl rfl (hw _ (List.mem_append_right _ hm))⟩, va_AO.of hAO⟩
  have hk5 : k < 5 := (List.getElem?_eq_some_iff.mp hk).1
  rcases (by omega : k = 0 ∨ k = 1 ∨ k = 2 ∨ k = 3 ∨ k = 4) with rfl | rfl | rfl | rfl | rfl
  · cases hk; exact ⟨fun n z => ⟨(fun k h => by cases h), k0, b0, p0, d0⟩, a0⟩
  · cases hk; exact ⟨fun n z => ⟨(fun k h => by cases h), k1, b1, p1, d1⟩, a1⟩
  · cases hk; exact ⟨fun n z => ⟨(fun k h => by cases h), k2, b2, p2, d2⟩, a2⟩
  · cases hk; exact ⟨fun n z => ⟨(fun k h => by cases h), k3, b3, p3, d3⟩, a3⟩
  · cases hk; exact ⟨fun n z => ⟨(fun k h => by cases h), k4, b4, p4, d4⟩, k4, p4, b4, d4, e4, a4⟩
theorem strs_ok : lw_tbl.all (fun w => match w with | .stringRef o k tx => decide (Cond.exactly (.string o k) "java/lang/String" ∈ flatC (Jvm.Cond.and given_1 narrow_1)) | _ => true) = true := by decide +kernel
theorem ncs_ok : NCs.all (fun q => decide (Cond.not (.castable q.1 q.2) ∈ flatC (Jvm.Cond.and given_1 narrow_1))) = true := by decide +kernel
theorem isref_ok : (decide (Cond.isRef (.static Bundle.tN "UNASSIGNED_STACK" Bundle.steD) ∈ flatC (Jvm.Cond.and given_1 narrow_1)) && decide (Cond.isRef (.static Bundle.tN "SUPPRESSED_SENTINEL" Bundle.listD) ∈ flatC (Jvm.Cond.and given_1 narrow_1))) = true := by decide +kernel
theorem exactly_ref {s : State} {args : Array Value} {t : Term} {c : String} (h : (Cond.exactly t c).before args s = true) : ∃ a, t.eval args s none [] s = some (.ref a) := by
  simp only [Cond.before, Cond.holds, Cond.value] at h
  cases he : t.eval args s none [] s with
  | none => simp [he] at h
  | some v =>
    cases v <;> first | exact ⟨_, rfl⟩ | (cases hc : s.vm.findClass c <;> simp [he, hc] at h)
theorem KE_ex {s : State} {args : Array Value} (hw : ∀ w ∈ lw_tbl, w.before args s = true) (hg : ∀ c ∈ flatC (Jvm.Cond.and given_1 narrow_1), c.before args s = true) : KE s.heap.size s := by
  have hr := isref_ok
  rw [Bool.and_eq_true] at hr
  replace hr := And.intro (of_decide_eq_true hr.1) (of_decide_eq_true hr.2)
  refine ⟨vx_Zqof (hw _ (List.mem_of_getElem? (i := 386) (by decide +kernel) : Cond.laysStatic Bundle.tN "UNASSIGNED_STACK" Bundle.steD ∈ lw_tbl)) (hw _ (List.mem_of_getElem? (i := 47) (by decide +kernel) : Cond.initialized Bundle.tN ∈ lw_tbl)) (hg _ hr.1) (fun a ha => Nat.not_le.mpr ha), vx_Zqof (hw _ (List.mem_of_getElem? (i := 388) (by decide +kernel) : Cond.laysStatic Bundle.tN "SUPPRESSED_SENTINEL" Bundle.listD ∈ lw_tbl)) (hw _ (List.mem_of_getElem? (i := 47) (by decide +kernel) : Cond.initialized Bundle.tN ∈ lw_tbl)) (hg _ hr.2) (fun a ha => Nat.not_le.mpr ha), fun k tx hm => ?_, fun x hm => va_tabs rfl rfl (hw _ hm), fun a b hm => va_tabs rfl rfl (hw _ hm), fun q hq => va_Nc.of (hg _ (of_decide_eq_true (List.all_eq_true.mp ncs_ok q hq)))⟩
  have h1 := List.all_eq_true.mp strs_ok _ hm
  obtain ⟨a, ha⟩ := exactly_ref (hg _ (of_decide_eq_true h1))
  exact ⟨a, vk_R.of (hw _ hm) ha⟩
theorem l_ret {p : Program} {l : Launch} {e : Env} {s : State} {m : MethodId} {below : List Frame} {meth : Method} {c : Code} {b : Nat} (hx : p.tables.exec = Jvm.exec) (hb : c.code = code) (hr : meth.sig.returnType = ret) (hlocks : meth.locks = false) {pc : Nat} {H : Heap} {ls : Array Slot} {locs : List Loc} (hlo : ∀ q ∈ locs, s.heap.size ≤ q.base) {cs ss : Nat} (hc : cs ≤ 694750) (hs : ss ≤ 7017375) (hdg : decode code pc = .ok (.ireturn, 1)) : W p l e room_1 s m #[Value.ref b] below meth c H locs cs ss (lw_Z below #[Value.ref b] s) (F0 m pc ls [.int 1]) := by
  intro T hT X
  obtain ⟨fs, hret, hrun, hended, hW, hframe⟩ := X.leave (v := some (.int 1)) (hlocks := hlocks) (fun h => by rw [hr] at h; cases h)
  have hmeth' : T.vm.method? m = some meth := X.method'
  refine ⟨T.setFrames fs, ?_, .returned (some (.int 1)), hrun, hended, rfl, ⟨_, rfl⟩, hW, hframe.weaken (fun y hy hlt => absurd hlt (Nat.not_lt.mpr (hlo y hy))) hc hs⟩
  jvm_step X.here [X.here.top, hx, hb, hdg, hmeth', hr, ret, narrow_b1]
  (try refine ⟨rfl, ?_⟩); (try refine ⟨rfl, ?_⟩)
  first | (intro acts; rw [hret _ acts rfl rfl rfl]) | rw [hret _ _ rfl rfl rfl]
  exact Steps.refl _
set_option maxHeartbeats 1000000 in
theorem start_of {p : Program} {e : Env} {s : State} {m : MethodId} {below : List Frame} {meth : Method} {c : Code} (l : Launch) (hflags : l.flags = flags0) {b L : Nat} {xs : Nat → Int32} (hL : L ≤ 260) (C0 : lw_At p s m meth c b L xs) {F : Nat} {s' : St} (hf : f_L_law L xs F 9000 σi = some (1, s')) : W p l e room_1 s m #[Value.ref b] below meth c s.heap [] 0 0 (lw_Z below #[Value.ref b] s) (entryFrame m ([Value.ref b] : List Value).toArray 19) := by
  obtain ⟨hx, hb, hret, hml, hown, hts, hX, hbl, hlk, hgv⟩ := C0
  obtain ⟨D, hK, hAO⟩ := KK_ex hts
  have hE := KE_ex hts (flat_of_before _ hgv)
  have hst : l.stackTraces = false := by unfold Launch.stackTraces; rw [hflags]; decide
  have hWT : ∀ w ∈ WT, w.before #[Value.ref b] s = true := fun w h => hts w (List.mem_filter.mp h).1
  have Γe : ∃ Γ : Ga, Γ = (p, l, e, room_1, s, m, #[Value.ref b], below, meth, c) := ⟨_, rfl⟩
  obtain ⟨Γ, hΓ⟩ := Γe
  have X : Cx Γ RL cL_law 19 D s.heap.size room_1 := by rw [hΓ]; exact ⟨hx, hb, hml, hown, hWT, hK, hlk, Nat.le_refl _, rfl⟩
  have Y : Xy Γ s.heap.size := by rw [hΓ]; exact ⟨hst, hE⟩
  have S : SX Γ s.heap.size b L xs := by rw [hΓ]; exact ⟨hX, hbl, hL⟩
  have M : RLe room_1 9000 45 40000 0 807 16594 := ⟨Nat.le_of_ble_eq_true rfl, Nat.le_of_ble_eq_true rfl, Nat.le_of_ble_eq_true rfl, Nat.le_of_ble_eq_true rfl⟩
  have hAO' : va_AO RX6 (Gs Γ) := by rw [hΓ]; exact hAO
  suffices hV : V Γ D s.heap.size false 19 (lw_Z below #[Value.ref b] s) 0 0 s00 0 [(0, .ref b)] [] by
    have hl := lv_entry [Value.ref b] (n := 19) (show 1 ≤ 19 by decide)
    rw [hΓ] at hV
    rw [lg_entry_eq]
    have hP0 : Pic D s.heap.size false s00 s.heap := ⟨rfl, (fun k x h => by cases h), (fun q x h => by cases h)⟩
    exact hV s.heap [] _ 0 0 hP0 va_S.rf hl (Nat.le_refl _) (Nat.le_refl _)
  have hli2 := li2_chk
  have hli := li_chk
  have hEnd : ∀ {s1 : St} {v : Int32} {pc : Nat} {lv : List (Nat × Value)}, Hc 0 9000 s1 → decode cL_law pc = .ok (.ireturn, 1) → some (v, s1) = some ((1 : Int32), s') → V Γ D s.heap.size true 19 (lw_Z below #[Value.ref b] s) (kg 45 0 s1) (ng 40000 0 s1) s1 pc lv [.int v] := by
    intro s1 v pc lv hc dd he
    cases he
    have hkz : kg 45 0 s' ≤ 600000 := by have := hc.2; unfold kg; omega
    have hnz : ng 40000 0 s' ≤ 7000000 := by have := hc.2; unfold ng; omega
    rw [hΓ]
    intro H locs ls cs ss hP hS hl hk hn
    exact l_ret hx hb hret hlk hS.2.2 (by omega) (by omega) dd
  cases h2 : li2 with
  | none => rw [h2] at hli2; cases hli2
  | some s2 =>
  have hz2 : sz s2 = 39 := by rw [h2] at hli2; exact of_decide_eq_true hli2
  have hc5 : lchk (li5 s2) = true := by unfold li at hli; rw [h2] at hli; exact hli
  refine r_new (pc := 0) X rfl inT10 tyX10 tyX10_ok w_56 w_57 w_36 rfl hdv10 (by decide) (by decide) dL_law_0 ?_
  refine r_dup (pc := 3) X dL_law_3 rfl ?_
  refine o_callI (mc := 38) (ms := 34577) (a := 0) (As := []) (st := [rfB s.heap.size (some 0)]) (pc := 4) X hAO' (c_f_P_init (F := 200) (s := li1) (p0 := some 0) h2) rfl w_58 w_59 w_36 w_60 rfl hdS_X10_init (by decide) (by decide) (by decide) (Nat.le_of_ble_eq_true rfl) dL_law_4 rfl ?_
  refine r_astore_n (x := some 0) (pc := 7) (lv' := [(0, .ref b), (1, .ref (s.heap.size + 0))]) X dL_law_7 (by decide) [1, 0] rfl ?_
  refine r_iconst (v := 4) (pc := 8) X dL_law_8 (by decide) ?_
  refine r_newa (t := 1) (ty := .int) (atype := .int) (pc := 9) X w_110 rfl rfl (by decide) (by decide) (m := 4) (by decide) (by decide) (by decide) (by decide) dL_law_9 ?_
  rw [hz2]
  generalize hs3 : sN s2 (.inr (.inl (1, 4, fun _ => 0))) = s3
  have hz3 : sz s3 = 40 := by rw [← hs3]; show sz s2 + 1 = 40; omega
  refine r_astore_n (x := some 39) (pc := 11) (lv' := [(0, .ref b), (1, .ref (s.heap.size + 0)), (2, .ref (s.heap.size + 39))]) X dL_law_11 (by decide) [1, 2, 0] rfl ?_
  refine r_bipush (v := 60) (pc := 12) X dL_law_12 (by decide) ?_
  refine r_newa (t := 1) (ty := .int) (atype := .int) (pc := 14) X w_110 rfl rfl (by decide) (by decide) (m := 60) (by decide) (by decide) (by decide) (by decide) dL_law_14 ?_
  rw [hz3]
  generalize hs4 : sN s3 (.inr (.inl (1, 60, fun _ => 0))) = s4
  have hz4 : sz s4 = 41 := by rw [← hs4]; show sz s3 + 1 = 41; omega
  refine r_astore_n (x := some 40) (pc := 16) (lv' := [(0, .ref b), (1, .ref (s.heap.size + 0)), (2, .ref (s.heap.size + 39)), (3, .ref (s.heap.size + 40))]) X dL_law_16 (by decide) [1, 2, 3, 0] rfl ?_
  refine r_bipush (v := 64) (pc := 17) X dL_law_17 (by decide) ?_
  refine r_newa (t := 1) (ty := .int) (atype := .int) (pc := 19) X w_110 rfl rfl (by decide) (by decide) (m := 64) (by decide) (by decide) (by decide) (by decide) dL_law_19 ?_
  rw [hz4]
  generalize hs5 : sN s4 (.inr (.inl (1, 64, fun _ => 0))) = s5
  have hz5 : sz s5 = 42 := by rw [← hs5]; show sz s4 + 1 = 42; omega
  refine r_astore (x := some 41) (pc := 21) (lv' := [(0, .ref b), (1, .ref (s.heap.size + 0)), (2, .ref (s.heap.size + 39)), (3, .ref (s.heap.size + 40)), (4, .ref (s.heap.size + 41))]) X dL_law_21 (by decide) [1, 2, 3, 4, 0] rfl ?_
  refine r_bipush (v := 48) (pc := 23) X dL_law_23 (by decide) ?_
  refine r_newa (t := 1) (ty := .int) (atype := .int) (pc := 25) X w_110 rfl rfl (by decide) (by decide) (m := 48) (by decide) (by decide) (by decide) (by decide) dL_law_25 ?_
  rw [hz5]
  generalize hs6 : sN s5 (.inr (.inl (1, 48, fun _ => 0))) = s6
  have hz6 : sz s6 = 43 := by rw [← hs6]; show sz s5 + 1 = 43; omega
  refine r_astore (x := some 42) (pc := 27) (lv' := [(0, .ref b), (1, .ref (s.heap.size + 0)), (2, .ref (s.heap.size + 39)), (3, .ref (s.heap.size + 40)), (4, .ref (s.heap.size + 41)), (5, .ref (s.heap.size + 42))]) X dL_law_27 (by decide) [1, 2, 3, 4, 5, 0] rfl ?_
  refine r_bipush (v := 40) (pc := 29) X dL_law_29 (by decide) ?_
  refine r_newa (t := 1) (ty := .int) (atype := .int) (pc := 31) X w_110 rfl rfl (by decide) (by decide) (m := 40) (by decide) (by decide) (by decide) (by decide) dL_law_31 ?_
  rw [hz6]
  generalize hs7 : sN s6 (.inr (.inl (1, 40, fun _ => 0))) = s7
  have hz7 : sz s7 = 44 := by rw [← hs7]; show sz s6 + 1 = 44; omega
  refine r_astore (x := some 43) (pc := 33) (lv' := [(0, .ref b), (1, .ref (s.heap.size + 0)), (2, .ref (s.heap.size + 39)), (3, .ref (s.heap.size + 40)), (4, .ref (s.heap.size + 41)), (5, .ref (s.heap.size + 42)), (6, .ref (s.heap.size + 43))]) X dL_law_33 (by decide) [1, 2, 3, 4, 5, 6, 0] rfl ?_
  refine r_bipush (v := 64) (pc := 35) X dL_law_35 (by decide) ?_
  refine r_newa (t := 1) (ty := .int) (atype := .int) (pc := 37) X w_110 rfl rfl (by decide) (by decide) (m := 64) (by decide) (by decide) (by decide) (by decide) dL_law_37 ?_
  rw [hz7]
  generalize hs8 : sN s7 (.inr (.inl (1, 64, fun _ => 0))) = s8
  have hz8 : sz s8 = 45 := by rw [← hs8]; show sz s7 + 1 = 45; omega
  refine r_astore (x := some 44) (pc := 39) (lv' := [(0, .ref b), (1, .ref (s.heap.size + 0)), (2, .ref (s.heap.size + 39)), (3, .ref (s.heap.size + 40)), (4, .ref (s.heap.size + 41)), (5, .ref (s.heap.size + 42)), (6, .ref (s.heap.size + 43)), (7, .ref (s.heap.size + 44))]) X dL_law_39 (by decide) [1, 2, 3, 4, 5, 6, 7, 0] rfl ?_
  have hc6 : lchk s8 = true := by rw [← hs8, ← hs7, ← hs6, ← hs5, ← hs4, ← hs3]; exact hc5
  have hlaw := c_f_L_law X M Y S hEnd ⟨Nat.zero_le _, Nat.zero_le _⟩ hf
  intro H locs ls cs ss hP hS hl hk hn
  exact V.mono (Nat.le_of_ble_eq_true rfl) (Nat.le_of_ble_eq_true rfl) hlaw H locs ls cs ss (hP.begin hc6) hS hl hk hn
