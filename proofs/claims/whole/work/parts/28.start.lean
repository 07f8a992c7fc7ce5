theorem w_96 : Cond.instantiable RX10 12 ∈ WT := WT_in (List.mem_of_getElem? (i := 96) (by decide +kernel)) (by decide +kernel)
theorem w_1075 : Cond.instantiable RX11 56 ∈ WT := WT_in (List.mem_of_getElem? (i := 1075) (by decide +kernel)) (by decide +kernel)
theorem w_95 : Cond.classLink RL 8 RX10 ∈ WT := WT_in (List.mem_of_getElem? (i := 95) (by decide +kernel)) (by decide +kernel)
theorem w_97 : Cond.methodLink RL 97 yX10_init ∈ WT := WT_in (List.mem_of_getElem? (i := 97) (by decide +kernel)) (by decide +kernel)
theorem w_98 : Cond.instanceMethod yX10_init ∈ WT := WT_in (List.mem_of_getElem? (i := 98) (by decide +kernel)) (by decide +kernel)
theorem w_99 : Cond.code yX10_init cX10_init 1 none ∈ WT := WT_in (List.mem_of_getElem? (i := 99) (by decide +kernel)) (by decide +kernel)
theorem w_1074 : Cond.classLink RL 98 RX11 ∈ WT := WT_in (List.mem_of_getElem? (i := 1074) (by decide +kernel)) (by decide +kernel)
theorem w_1076 : Cond.methodLink RL 100 yX11_init ∈ WT := WT_in (List.mem_of_getElem? (i := 1076) (by decide +kernel)) (by decide +kernel)
theorem w_1077 : Cond.instanceMethod yX11_init ∈ WT := WT_in (List.mem_of_getElem? (i := 1077) (by decide +kernel)) (by decide +kernel)
theorem w_1078 : Cond.code yX11_init cX11_init 2 none ∈ WT := WT_in (List.mem_of_getElem? (i := 1078) (by decide +kernel)) (by decide +kernel)
theorem hdS_X10_init : yX10_init.cls ≠ "java/lang/invoke/MethodHandle" ∧ yX10_init.cls ≠ "java/lang/invoke/VarHandle" ∧ (parseMethodDescriptor yX10_init.desc).map (fun d => d.parameters.length) = some 0 := by decide +kernel
theorem hdS_X11_init : yX11_init.cls ≠ "java/lang/invoke/MethodHandle" ∧ yX11_init.cls ≠ "java/lang/invoke/VarHandle" ∧ (parseMethodDescriptor yX11_init.desc).map (fun d => d.parameters.length) = some 0 := by decide +kernel
/-! from the law's entry to the loop -/
theorem KK_ex {s : State} {args : Array Value} (hw : ∀ w ∈ lw_tbl, w.before args s = true) : ∃ D : DD, KK D s ∧ va_AO RX6 s := by
  have hWT : ∀ w ∈ WT, w.before args s = true := fun w h => hw w (List.mem_filter.mp h).1
  have h0 : ∀ (c : Nat) (q : vw_C), vwCl[c]? = some q → ∃ (cC : ClassId) (iS : Nat → Nat), u_Kn s q.1 q.2.1 q.2.2 cC iS := by
    intro c q hq
    have hc : c < 12 := (List.getElem?_eq_some_iff.mp hq).1
    rcases (by omega : c = 0 ∨ c = 1 ∨ c = 2 ∨ c = 3 ∨ c = 4 ∨ c = 5 ∨ c = 6 ∨ c = 7 ∨ c = 8 ∨ c = 9 ∨ c = 10 ∨ c = 11) with rfl | rfl | rfl | rfl | rfl | rfl | rfl | rfl | rfl | rfl | rfl | rfl
    · cases hq; exact u_known hWT inT0 (hWT _ w_184)
    · cases hq; exact u_known hWT inT1 (hWT _ w_236)
    · cases hq; exact u_known hWT inT2 (hWT _ w_106)
    · cases hq; exact u_known hWT inT3 (hWT _ w_384)
    · cases hq; exact u_known hWT inT4 (hWT _ w_220)
    · cases hq; exact u_known hWT inT5 (hWT _ w_151)
    · cases hq; exact u_known hWT inT6 (hWT _ w_914)
    · cases hq; exact u_known hWT inT7 (hWT _ w_301)
    · cases hq; exact u_known hWT inT8 (hWT _ w_269)
    · cases hq; exact u_known hWT inT9 (hWT _ w_263)
    · cases hq; exact u_known hWT inT10 (hWT _ w_96)
    · cases hq; exact u_known hWT inT11 (hWT _ w_1075)
  have h1 : ∀ c : Nat, ∃ z : ClassId × (Nat → Nat), ∀ q : vw_C, vwCl[c]? = some q → u_Kn s q.1 q.2.1 q.2.2 z.1 z.2 := by
    intro c
    cases h : vwCl[c]? with
    | none => exact ⟨(0, fun _ => 0), fun q h => by cases h⟩
    | some q0 =>
      obtain ⟨cC, iS, h9⟩ := h0 c q0 h
      exact ⟨(cC, iS), fun q hq => by cases hq; exact h9⟩
  obtain ⟨g, hg⟩ := Classical.axiomOfChoice h1
  obtain ⟨c0, k0, p0, a0, b0, d0⟩ := Cond.arrayClass_spec (hWT _ w_148)
  obtain ⟨c1, k1, p1, a1, b1, d1⟩ := Cond.arrayClass_spec (hWT _ w_149)
  obtain ⟨c2, k2, p2, a2, b2, d2⟩ := Cond.arrayClass_spec (hWT _ w_318)
  obtain ⟨c3, k3, p3, a3, b3, d3⟩ := Cond.arrayClass_spec (hWT _ w_218)
  have hAO := hw _ (List.mem_of_getElem? (i := 104) (by decide +kernel) : Cond.arrayOver (.object RX6) ∈ lw_tbl)
  obtain ⟨p4, c4, k4, e4, -, b4, d4, a4⟩ := Cond.arrayOver_spec hAO
  refine ⟨((fun c => (g c).1, fun c => (g c).2), fun t => match t with | 0 => c0 | 1 => c1 | 2 => c2 | 3 => c3 | _ => c4), ⟨⟨fun c q hq => hg c q hq, fun k q hk => ?_⟩, fun a i x h hm => va_tabs rfl rfl (hw _ (List.mem_append_right _ hm))⟩, va_AO.of hAO⟩
  have hk5 : k < 5 := (List.getElem?_eq_some_iff.mp hk).1
  rcases (by omega : k = 0 ∨ k = 1 ∨ k = 2 ∨ k = 3 ∨ k = 4) with rfl | rfl | rfl | rfl | rfl
  · cases hk; exact ⟨fun n z => ⟨(fun k h => by cases h), k0, b0, p0, d0⟩, a0⟩
  · cases hk; exact ⟨fun n z => ⟨(fun k h => by cases h), k1, b1, p1, d1⟩, a1⟩
  · cases hk; exact ⟨fun n z => ⟨(fun k h => by cases h), k2, b2, p2, d2⟩, a2⟩
  · cases hk; exact ⟨fun n z => ⟨(fun k h => by cases h), k3, b3, p3, d3⟩, a3⟩
  · cases hk; exact ⟨fun n z => ⟨(fun k h => by cases h), k4, b4, p4, d4⟩, k4, p4, b4, d4, e4, a4⟩
theorem strs_ok : lw_tbl.all (fun w => match w with | .stringRef o k tx => decide (Cond.exactly (.string o k) "java/lang/String" ∈ flatC (Jvm.Cond.and given_1 narrow_1)) | _ => true) = true := by decide +kernel
theorem ncs_ok : NCs.all (fun q => decide (Cond.not (.castable q.1 q.2) ∈ flatC (Jvm.Cond.and given_1 narrow_1))) = true := by decide +kernel
theorem isref_ok : (decide (Cond.isRef (.static Bundle.tN "UNASSIGNED_STACK" Bundle.steD) ∈ flatC (Jvm.Cond.and given_1 narrow_1)) && decide (Cond.isRef (.static Bundle.tN "SUPPRESSED_SENTINEL" Bundle.listD) ∈ flatC (Jvm.Cond.and given_1 narrow_1))) = true := by decide +kernel
theorem exactly_ref {s : State} {args : Array Value} {t : Term} {c : String} (h : (Cond.exactly t c).before args s = true) : ∃ a, t.eval args s none [] s = some (.ref a) := by
  simp only [Cond.before, Cond.holds, Cond.value] at h
  cases he : t.eval args s none [] s with
  | none => simp [he] at h
  | some v =>
    cases v <;> first | exact ⟨_, rfl⟩ | (cases hc : s.vm.findClass c <;> simp [he, hc] at h)
theorem KE_ex {s : State} {args : Array Value} (hw : ∀ w ∈ lw_tbl, w.before args s = true) (hg : ∀ c ∈ flatC (Jvm.Cond.and given_1 narrow_1), c.before args s = true) : KE s.heap.size s := by
  have hr := isref_ok
  rw [Bool.and_eq_true] at hr
  replace hr := And.intro (of_decide_eq_true hr.1) (of_decide_eq_true hr.2)
  refine ⟨vx_Zqof (hw _ (List.mem_of_getElem? (i := 527) (by decide +kernel) : Cond.laysStatic Bundle.tN "UNASSIGNED_STACK" Bundle.steD ∈ lw_tbl)) (hw _ (List.mem_of_getElem? (i := 85) (by decide +kernel) : Cond.initialized Bundle.tN ∈ lw_tbl)) (hg _ hr.1) (fun a ha => Nat.not_le.mpr ha), vx_Zqof (hw _ (List.mem_of_getElem? (i := 529) (by decide +kernel) : Cond.laysStatic Bundle.tN "SUPPRESSED_SENTINEL" Bundle.listD ∈ lw_tbl)) (hw _ (List.mem_of_getElem? (i := 85) (by decide +kernel) : Cond.initialized Bundle.tN ∈ lw_tbl)) (hg _ hr.2) (fun a ha => Nat.not_le.mpr ha), fun k tx hm => ?_, fun x hm => va_tabs rfl rfl (hw _ hm), fun a b hm => va_tabs rfl rfl (hw _ hm), fun q hq => va_Nc.of (hg _ (of_decide_eq_true (List.all_eq_true.mp ncs_ok q hq)))⟩
  have h1 := List.all_eq_true.mp strs_ok _ hm
  obtain ⟨a, ha⟩ := exactly_ref (hg _ (of_decide_eq_true h1))
  exact ⟨a, vk_R.of (hw _ hm) ha⟩
theorem l_ret {p : Program} {l : Launch} {e : Env} {s : State} {m : MethodId} {below : List Frame} {meth : Method} {c : Code} {b : Nat} (hx : p.tables.exec = Jvm.exec) (hb : c.code = code) (hr : meth.sig.returnType = ret) (hlocks : meth.locks = false) {pc : Nat} {H : Heap} {ls : Array Slot} {locs : List Loc} (hlo : ∀ q ∈ locs, s.heap.size ≤ q.base) {cs ss : Nat} (hc : cs ≤ 601024) (hs : ss ≤ 7293034) (hdg : decode code pc = .ok (.ireturn, 1)) : W p l e room_1 s m #[Value.ref b] below meth c H locs cs ss (lw_Z below #[Value.ref b] s) (F0 m pc ls [.int 1]) := by
  intro T hT X
  obtain ⟨fs, hret, hrun, hended, hW, hframe⟩ := X.leave (v := some (.int 1)) (hlocks := hlocks) (fun h => by rw [hr] at h; cases h)
  have hmeth' : T.vm.method? m = some meth := X.method'
  refine ⟨T.setFrames fs, ?_, .returned (some (.int 1)), hrun, hended, rfl, ⟨_, rfl⟩, hW, hframe.weaken (fun y hy hlt => absurd hlt (Nat.not_lt.mpr (hlo y hy))) hc hs⟩
  jvm_step X.here [X.here.top, hx, hb, hdg, hmeth', hr, ret, narrow_b1]
  (try refine ⟨rfl, ?_⟩); (try refine ⟨rfl, ?_⟩)
  first | (intro acts; rw [hret _ acts rfl rfl rfl]) | rw [hret _ _ rfl rfl rfl]
  exact Steps.refl _
set_option maxHeartbeats 1000000 in
theorem start_of {p : Program} {e : Env} {s : State} {m : MethodId} {below : List Frame} {meth : Method} {c : Code} (l : Launch) (hflags : l.flags = flags0) {b L : Nat} {xs : Nat → Int32} (hL : L ≤ 2560) (C0 : lw_At p s m meth c b L xs) {F : Nat} {Inv : St → Prop} (hB : BB F Inv) : W p l e room_1 s m #[Value.ref b] below meth c s.heap [] 0 0 (lw_Z below #[Value.ref b] s) (entryFrame m ([Value.ref b] : List Value).toArray 8) := by
  obtain ⟨hx, hb, hret, hml, hown, hts, hX, hbl, hlk, hgv⟩ := C0
  obtain ⟨D, hK, hAO⟩ := KK_ex hts
  have hE := KE_ex hts (flat_of_before _ hgv)
  have hst : l.stackTraces = false := by unfold Launch.stackTraces; rw [hflags]; decide
  have hWT : ∀ w ∈ WT, w.before #[Value.ref b] s = true := fun w h => hts w (List.mem_filter.mp h).1
  have Γe : ∃ Γ : Ga, Γ = (p, l, e, room_1, s, m, #[Value.ref b], below, meth, c) := ⟨_, rfl⟩
  obtain ⟨Γ, hΓ⟩ := Γe
  have X : Cx Γ RL cL_law 8 D s.heap.size room_1 := by rw [hΓ]; exact ⟨hx, hb, hml, hown, hWT, hK, hlk, Nat.le_refl _, rfl⟩
  have XL : LX Γ D s.heap.size b L xs := ⟨X, by rw [hΓ]; exact hst, by rw [hΓ]; exact hE, by rw [hΓ]; exact hX, hbl, by rw [hΓ], hL⟩
  have hAO' : va_AO RX6 (Gs Γ) := by rw [hΓ]; exact hAO
  suffices hV : V Γ D s.heap.size false 8 (lw_Z below #[Value.ref b] s) 0 0 s00 0 [(0, .ref b)] [] by
    have hl := lv_entry [Value.ref b] (n := 8) (show 1 ≤ 8 by decide)
    rw [hΓ] at hV
    rw [lg_entry_eq]
    have hP0 : Pic D s.heap.size false s00 s.heap := ⟨rfl, (fun k x h => by cases h), (fun q x h => by cases h)⟩
    exact hV s.heap [] _ 0 0 hP0 va_S.rf hl (Nat.le_refl _) (Nat.le_refl _)
  have hli2 := li2_chk
  have hli := li_chk
  have hend : ∀ σ k n j, k ≤ 601024 → n ≤ 7293034 → V Γ D s.heap.size true 8 (lw_Z below #[Value.ref b] s) k n σ 1694 (L5 s.heap.size b j) [] := by
    intro σ k n j hk9 hn9
    refine r_iconst (v := 1) (pc := 1694) X dL_law_1694 (by decide) ?_
    rw [hΓ]
    intro H locs ls cs ss hP hS hl hk hn
    exact l_ret hx hb hret hlk hS.2.2 (by omega) (by omega) dL_law_1695
  cases h2 : li2 with
  | none => rw [h2] at hli2; cases hli2
  | some s2 =>
  have hz2 : sz s2 = 39 := by rw [h2] at hli2; exact of_decide_eq_true hli2
  cases h4 : li4 s2 with
  | none => unfold li at hli; rw [h2] at hli; dsimp only [Option.bind] at hli; rw [h4] at hli; cases hli
  | some s4 =>
  have hc5 : lchk (li5 s4) = true := by unfold li at hli; rw [h2] at hli; dsimp only [Option.bind] at hli; rw [h4] at hli; exact hli
  refine r_new (pc := 0) X rfl inT10 tyX10 tyX10_ok w_95 w_96 w_74 rfl hdv10 (by decide) (by decide) dL_law_0 ?_
  refine r_dup (pc := 3) X dL_law_3 rfl ?_
  refine o_callI (mc := 38) (ms := 34577) (a := 0) (As := []) (st := [rfB s.heap.size (some 0)]) (pc := 4) X hAO' (c_f_P_init (F := 200) (s := li1) (p0 := some 0) h2) rfl w_97 w_98 w_74 w_99 rfl hdS_X10_init (by decide) (by decide) (by decide) (Nat.le_of_ble_eq_true rfl) dL_law_4 rfl ?_
  refine r_astore_n (x := some 0) (pc := 7) (lv' := [(0, .ref b), (1, .ref (s.heap.size + 0))]) X dL_law_7 (by decide) [1, 0] rfl ?_
  refine r_new (pc := 8) X rfl inT11 tyX11 tyX11_ok w_1074 w_1075 w_84 rfl hdv11 (by decide) (by decide) dL_law_8 ?_
  rw [hz2]
  refine r_dup (pc := 11) X dL_law_11 rfl ?_
  refine r_callI (mc := 30) (ms := 11378) (a := 39) (As := []) (st := [rfB s.heap.size (some 39)]) (pc := 12) X (c_f_M_init (F := 200) (p0 := some 39) h4) rfl w_1076 w_1077 w_84 w_1078 rfl hdS_X11_init (by decide) (by decide) (by decide) (Nat.le_of_ble_eq_true rfl) dL_law_12 rfl ?_
  refine r_astore_n (x := some 39) (pc := 15) (lv' := [(0, .ref b), (1, .ref (s.heap.size + 0)), (2, .ref (s.heap.size + 39))]) X dL_law_15 (by decide) [1, 2, 0] rfl ?_
  refine r_iconst (v := 1) (pc := 16) X dL_law_16 (by decide) ?_
  refine r_newaL (pc := 17) X w_318 (by decide) (m := 1) (by decide) (by decide) (by decide) (by decide) dL_law_17 ?_
  have hz4 : sz s4 = 70 := by
    have h9 := hc5
    simp only [lchk, Bool.and_eq_true, decide_eq_true_eq] at h9
    have h10 : sz s4 + 1 = 71 := h9.1
    omega
  rw [hz4]
  refine r_astore_n (x := some 70) (pc := 19) (lv' := [(0, .ref b), (1, .ref (s.heap.size + 0)), (2, .ref (s.heap.size + 39)), (3, .ref (s.heap.size + 70))]) X dL_law_19 (by decide) [1, 2, 3, 0] rfl ?_
  refine r_iconst (v := 0) (pc := 20) X dL_law_20 (by decide) ?_
  refine r_istore (pc := 21) (lv' := L5 s.heap.size b 0) X dL_law_21 (by decide) [1, 2, 3, 4, 0] rfl ?_
  have hlp := law_loop XL hB hend L 0 σi (by omega) (by omega) hB.1
  intro H locs ls cs ss hP hS hl hk hn
  exact V.mono (by decide) (by decide) hlp H locs ls cs ss (hP.begin hc5) hS hl hk hn
