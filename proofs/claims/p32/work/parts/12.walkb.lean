/-! f_Coder_rankOf -/
theorem dX1_rankOf_0 : decode cX1_rankOf 0 = .ok (.iload_n 0, 1) := by decide +kernel
theorem dX1_rankOf_1 : decode cX1_rankOf 1 = .ok (.lookupswitch 115 #[(33, 103), (38, 101), (42, 109), (43, 107), (45, 107), (47, 109), (60, 105), (61, 105), (62, 105), (124, 99), (126, 112)], 99) := by decide +kernel
theorem dX1_rankOf_100 : decode cX1_rankOf 100 = .ok (.iconst 1, 1) := by decide +kernel
theorem dX1_rankOf_101 : decode cX1_rankOf 101 = .ok (.ireturn, 1) := by decide +kernel
theorem dX1_rankOf_102 : decode cX1_rankOf 102 = .ok (.iconst 2, 1) := by decide +kernel
theorem dX1_rankOf_103 : decode cX1_rankOf 103 = .ok (.ireturn, 1) := by decide +kernel
theorem dX1_rankOf_104 : decode cX1_rankOf 104 = .ok (.iconst 3, 1) := by decide +kernel
theorem dX1_rankOf_105 : decode cX1_rankOf 105 = .ok (.ireturn, 1) := by decide +kernel
theorem dX1_rankOf_106 : decode cX1_rankOf 106 = .ok (.iconst 4, 1) := by decide +kernel
theorem dX1_rankOf_107 : decode cX1_rankOf 107 = .ok (.ireturn, 1) := by decide +kernel
theorem dX1_rankOf_108 : decode cX1_rankOf 108 = .ok (.iconst 5, 1) := by decide +kernel
theorem dX1_rankOf_109 : decode cX1_rankOf 109 = .ok (.ireturn, 1) := by decide +kernel
theorem dX1_rankOf_110 : decode cX1_rankOf 110 = .ok (.bipush 6, 2) := by decide +kernel
theorem dX1_rankOf_112 : decode cX1_rankOf 112 = .ok (.ireturn, 1) := by decide +kernel
theorem dX1_rankOf_113 : decode cX1_rankOf 113 = .ok (.bipush 7, 2) := by decide +kernel
theorem dX1_rankOf_115 : decode cX1_rankOf 115 = .ok (.ireturn, 1) := by decide +kernel
theorem dX1_rankOf_116 : decode cX1_rankOf 116 = .ok (.iconst 0, 1) := by decide +kernel
theorem dX1_rankOf_117 : decode cX1_rankOf 117 = .ok (.ireturn, 1) := by decide +kernel
def f_Coder_rankOf (F : Nat) (s : St) (p0 : Int32) : Option (Int32 × St) :=
  if p0 = 33 then
    (some (3, s))
  else if p0 = 38 then
    (some (2, s))
  else if p0 = 42 then
    (some (6, s))
  else if p0 = 43 then
    (some (5, s))
  else if p0 = 45 then
    (some (5, s))
  else if p0 = 47 then
    (some (6, s))
  else if p0 = 60 then
    (some (4, s))
  else if p0 = 61 then
    (some (4, s))
  else if p0 = 62 then
    (some (4, s))
  else if p0 = 124 then
    (some (1, s))
  else if p0 = 126 then
    (some (7, s))
  else 
    (some (0, s))
set_option maxHeartbeats 1000000 in
theorem c_f_Coder_rankOf {F : Nat} {s : St} {p0 : Int32} {r : Int32} {s' : St} (hf : f_Coder_rankOf F s p0 = some (r, s')) : CC true yX1_rankOf (Cond.code yX1_rankOf cX1_rankOf 1 (some .int)) 0 0 (fun B => [.int p0]) s (fun B => (some (.int r))) s' 0 0 := by
  refine CC.of (fun B => [(0, .int p0)]) (by decide +kernel) (fun _ => rfl) (fun _ => (by simp [lg_sl, rfB_cat, catI, catL, catR])) (fun Γ D B X hr hin => ?_)
  have X : Cx Γ RX1 cX1_rankOf 1 D B { frames := 0, cells := 0, slots := 0, locals := 0 } := X
  unfold f_Coder_rankOf at hf
  refine r_iload_n (pc := 0) X dX1_rankOf_0 0 rfl ?_
  refine sw hf (fun e0 hf => ?_) (fun e0 hf => ?_)
  · refine r_lookup (tgt := 104) (pc := 1) X dX1_rankOf_1 (by decide) (by rw [e0] <;> rfl) (by decide) ?_
    refine r_iconst (v := 3) (pc := 104) X dX1_rankOf_104 (by decide) ?_
    exact e_iret (pc := 105) X hr hf (Nat.le_refl _) (Nat.le_refl _) dX1_rankOf_105
  refine sw hf (fun e1 hf => ?_) (fun e1 hf => ?_)
  · refine r_lookup (tgt := 102) (pc := 1) X dX1_rankOf_1 (by decide) (by rw [e1] <;> rfl) (by decide) ?_
    refine r_iconst (v := 2) (pc := 102) X dX1_rankOf_102 (by decide) ?_
    exact e_iret (pc := 103) X hr hf (Nat.le_refl _) (Nat.le_refl _) dX1_rankOf_103
  refine sw hf (fun e2 hf => ?_) (fun e2 hf => ?_)
  · refine r_lookup (tgt := 110) (pc := 1) X dX1_rankOf_1 (by decide) (by rw [e2] <;> rfl) (by decide) ?_
    refine r_bipush (v := 6) (pc := 110) X dX1_rankOf_110 (by decide) ?_
    exact e_iret (pc := 112) X hr hf (Nat.le_refl _) (Nat.le_refl _) dX1_rankOf_112
  refine sw hf (fun e3 hf => ?_) (fun e3 hf => ?_)
  · refine r_lookup (tgt := 108) (pc := 1) X dX1_rankOf_1 (by decide) (by rw [e3] <;> rfl) (by decide) ?_
    refine r_iconst (v := 5) (pc := 108) X dX1_rankOf_108 (by decide) ?_
    exact e_iret (pc := 109) X hr hf (Nat.le_refl _) (Nat.le_refl _) dX1_rankOf_109
  refine sw hf (fun e4 hf => ?_) (fun e4 hf => ?_)
  · refine r_lookup (tgt := 108) (pc := 1) X dX1_rankOf_1 (by decide) (by rw [e4] <;> rfl) (by decide) ?_
    refine r_iconst (v := 5) (pc := 108) X dX1_rankOf_108 (by decide) ?_
    exact e_iret (pc := 109) X hr hf (Nat.le_refl _) (Nat.le_refl _) dX1_rankOf_109
  refine sw hf (fun e5 hf => ?_) (fun e5 hf => ?_)
  · refine r_lookup (tgt := 110) (pc := 1) X dX1_rankOf_1 (by decide) (by rw [e5] <;> rfl) (by decide) ?_
    refine r_bipush (v := 6) (pc := 110) X dX1_rankOf_110 (by decide) ?_
    exact e_iret (pc := 112) X hr hf (Nat.le_refl _) (Nat.le_refl _) dX1_rankOf_112
  refine sw hf (fun e6 hf => ?_) (fun e6 hf => ?_)
  · refine r_lookup (tgt := 106) (pc := 1) X dX1_rankOf_1 (by decide) (by rw [e6] <;> rfl) (by decide) ?_
    refine r_iconst (v := 4) (pc := 106) X dX1_rankOf_106 (by decide) ?_
    exact e_iret (pc := 107) X hr hf (Nat.le_refl _) (Nat.le_refl _) dX1_rankOf_107
  refine sw hf (fun e7 hf => ?_) (fun e7 hf => ?_)
  · refine r_lookup (tgt := 106) (pc := 1) X dX1_rankOf_1 (by decide) (by rw [e7] <;> rfl) (by decide) ?_
    refine r_iconst (v := 4) (pc := 106) X dX1_rankOf_106 (by decide) ?_
    exact e_iret (pc := 107) X hr hf (Nat.le_refl _) (Nat.le_refl _) dX1_rankOf_107
  refine sw hf (fun e8 hf => ?_) (fun e8 hf => ?_)
  · refine r_lookup (tgt := 106) (pc := 1) X dX1_rankOf_1 (by decide) (by rw [e8] <;> rfl) (by decide) ?_
    refine r_iconst (v := 4) (pc := 106) X dX1_rankOf_106 (by decide) ?_
    exact e_iret (pc := 107) X hr hf (Nat.le_refl _) (Nat.le_refl _) dX1_rankOf_107
  refine sw hf (fun e9 hf => ?_) (fun e9 hf => ?_)
  · refine r_lookup (tgt := 100) (pc := 1) X dX1_rankOf_1 (by decide) (by rw [e9] <;> rfl) (by decide) ?_
    refine r_iconst (v := 1) (pc := 100) X dX1_rankOf_100 (by decide) ?_
    exact e_iret (pc := 101) X hr hf (Nat.le_refl _) (Nat.le_refl _) dX1_rankOf_101
  refine sw hf (fun e10 hf => ?_) (fun e10 hf => ?_)
  · refine r_lookup (tgt := 113) (pc := 1) X dX1_rankOf_1 (by decide) (by rw [e10] <;> rfl) (by decide) ?_
    refine r_bipush (v := 7) (pc := 113) X dX1_rankOf_113 (by decide) ?_
    exact e_iret (pc := 115) X hr hf (Nat.le_refl _) (Nat.le_refl _) dX1_rankOf_115
  · refine r_lookup (off := 115) (tgt := 116) (pc := 1) X dX1_rankOf_1 (by decide) ((lv_osw e0 (by decide)).trans ((lv_osw e1 (by decide)).trans ((lv_osw e2 (by decide)).trans ((lv_osw e3 (by decide)).trans ((lv_osw e4 (by decide)).trans ((lv_osw e5 (by decide)).trans ((lv_osw e6 (by decide)).trans ((lv_osw e7 (by decide)).trans ((lv_osw e8 (by decide)).trans ((lv_osw e9 (by decide)).trans ((lv_osw e10 (by decide)).trans rfl))))))))))) (by decide) ?_
    refine r_iconst (v := 0) (pc := 116) X dX1_rankOf_116 (by decide) ?_
    exact e_iret (pc := 117) X hr hf (Nat.le_refl _) (Nat.le_refl _) dX1_rankOf_117
/-! f_Coder_put -/
theorem dX1_put_0 : decode cX1_put 0 = .ok (.aload_n 0, 1) := by decide +kernel
theorem dX1_put_1 : decode cX1_put 1 = .ok (.getfield 15, 3) := by decide +kernel
theorem dX1_put_4 : decode cX1_put 4 = .ok (.iconst 0, 1) := by decide +kernel
theorem dX1_put_5 : decode cX1_put 5 = .ok (.aload_n 0, 1) := by decide +kernel
theorem dX1_put_6 : decode cX1_put 6 = .ok (.getfield 9, 3) := by decide +kernel
theorem dX1_put_9 : decode cX1_put 9 = .ok (.arraylength, 1) := by decide +kernel
theorem dX1_put_10 : decode cX1_put 10 = .ok (.iconst 1, 1) := by decide +kernel
theorem dX1_put_11 : decode cX1_put 11 = .ok (.isub, 1) := by decide +kernel
theorem dX1_put_12 : decode cX1_put 12 = .ok (.invokestatic 74, 3) := by decide +kernel
theorem dX1_put_15 : decode cX1_put 15 = .ok (.ifCond .eq 23, 3) := by decide +kernel
theorem dX1_put_18 : decode cX1_put 18 = .ok (.aload_n 0, 1) := by decide +kernel
theorem dX1_put_19 : decode cX1_put 19 = .ok (.getfield 9, 3) := by decide +kernel
theorem dX1_put_22 : decode cX1_put 22 = .ok (.aload_n 0, 1) := by decide +kernel
theorem dX1_put_23 : decode cX1_put 23 = .ok (.getfield 15, 3) := by decide +kernel
theorem dX1_put_26 : decode cX1_put 26 = .ok (.iload_n 1, 1) := by decide +kernel
theorem dX1_put_27 : decode cX1_put 27 = .ok (.iastore, 1) := by decide +kernel
theorem dX1_put_28 : decode cX1_put 28 = .ok (.aload_n 0, 1) := by decide +kernel
theorem dX1_put_29 : decode cX1_put 29 = .ok (.dup, 1) := by decide +kernel
theorem dX1_put_30 : decode cX1_put 30 = .ok (.getfield 15, 3) := by decide +kernel
theorem dX1_put_33 : decode cX1_put 33 = .ok (.iconst 1, 1) := by decide +kernel
theorem dX1_put_34 : decode cX1_put 34 = .ok (.iadd, 1) := by decide +kernel
theorem dX1_put_35 : decode cX1_put 35 = .ok (.putfield 15, 3) := by decide +kernel
theorem dX1_put_38 : decode cX1_put 38 = .ok (.return_, 1) := by decide +kernel
def f_Coder_put (F : Nat) (s : St) (p1 : Int32) : Option (St) :=
  (f_P_isIn F s (gI s 1665) 0 ((80 : Int32) - 1)).bind fun x1 => (if x1.1 = 0 then
    (some x1.2)
  else
    ((ix 80 (gI x1.2 1665)).bind fun j2 => (lt (sA x1.2 27 j2 p1) fun s3 => (lt (sI s3 1665 ((gI s3 1665) + 1)) fun s4 => (some s4)))))
set_option maxHeartbeats 1000000 in
theorem c_f_Coder_put {F : Nat} {s : St} {p1 : Int32} {s' : St} (hf : f_Coder_put F s p1 = some s') : CC true yX1_put (Cond.code yX1_put cX1_put 2 none) 1 22 (fun B => [.ref (B + 26), .int p1]) s (fun B => none) s' 0 0 := by
  refine CC.of (fun B => [(0, .ref (B + 26)), (1, .int p1)]) (by decide +kernel) (fun _ => rfl) (fun _ => (by simp [lg_sl, rfB_cat, catI, catL, catR])) (fun Γ D B X hr hin => ?_)
  have X : Cx Γ RX1 cX1_put 2 D B { frames := 1, cells := 0, slots := 0, locals := 22 } := X
  unfold f_Coder_put at hf
  refine r_aload_n (x := some 26) (pc := 0) X dX1_put_0 0 rfl ?_
  refine r_get (j := 1) (pc := 1) X ce_26 rfl inT1 (by decide) w_204 rfl dX1_put_1 ?_
  refine r_iconst (v := 0) (pc := 4) X dX1_put_4 (by decide) ?_
  refine r_aload_n (x := some 26) (pc := 5) X dX1_put_5 0 rfl ?_
  refine r_get (j := 0) (pc := 6) X ce_26 rfl inT1 (by decide) w_202 rfl dX1_put_6 ?_
  refine r_alen (t0 := 1) (v := 80) (pc := 9) X ce_27 rfl (by decide) dX1_put_9 ?_
  refine r_iconst (v := 1) (pc := 10) X dX1_put_10 (by decide) ?_
  refine r_isub (pc := 11) X dX1_put_11 ?_
  refine bnd hf (fun x1 h1 hf => ?_)
  refine r_callSNi (As := [.int (gI s 1665), .int 0, .int ((80 : Int32) - 1)]) (st := []) (pc := 12) X (c_f_P_isIn h1) rfl wn_912 w_342 w_36 w_343 hdS_X10_isIn (by decide) (by decide) (by decide) (Nat.le_of_ble_eq_true rfl) dX1_put_12 rfl ?_
  refine b_if_eq (tgt := 38) (pc := 15) X dX1_put_15 (by decide) hf (fun hf => ?_) (fun hf => ?_)
  · exact e_vret (pc := 38) X hr hf (Nat.le_refl _) (Nat.le_refl _) dX1_put_38
  · refine r_aload_n (x := some 26) (pc := 18) X dX1_put_18 0 rfl ?_
    refine r_get (j := 0) (pc := 19) X ce_26 rfl inT1 (by decide) w_202 rfl dX1_put_19 ?_
    refine r_aload_n (x := some 26) (pc := 22) X dX1_put_22 0 rfl ?_
    refine r_get (j := 1) (pc := 23) X ce_26 rfl inT1 (by decide) w_204 rfl dX1_put_23 ?_
    refine r_iload_n (pc := 26) X dX1_put_26 1 rfl ?_
    refine b_iast (pc := 27) X ce_27 (fun _ => ca_27 _ _) dX1_put_27 hf (fun j2 s3 hf => ?_)
    refine r_aload_n (x := some 26) (pc := 28) X dX1_put_28 0 rfl ?_
    refine r_dup (pc := 29) X dX1_put_29 rfl ?_
    refine r_get (j := 1) (pc := 30) X ce_26 rfl inT1 (by decide) w_204 rfl dX1_put_30 ?_
    refine r_iconst (v := 1) (pc := 33) X dX1_put_33 (by decide) ?_
    refine r_iadd (pc := 34) X dX1_put_34 ?_
    refine b_put (j := 1) (pc := 35) X ce_26 rfl inT1 tyX1 tyX1_ok nmX1 (by decide) w_204 rfl (tyX1_ok 1 (by decide)) rfl rfl (Nat.le_of_ble_eq_true rfl) (cp_1665 _) rfl rfl dX1_put_35 hf (fun s4 hf => ?_)
    exact e_vret (pc := 38) X hr hf (Nat.le_refl _) (Nat.le_refl _) dX1_put_38
/-! f_Coder_settle -/
theorem dX1_settle_0 : decode cX1_settle 0 = .ok (.aload_n 0, 1) := by decide +kernel
theorem dX1_settle_1 : decode cX1_settle 1 = .ok (.getfield 25, 3) := by decide +kernel
theorem dX1_settle_4 : decode cX1_settle 4 = .ok (.iconst 1, 1) := by decide +kernel
theorem dX1_settle_5 : decode cX1_settle 5 = .ok (.aload_n 0, 1) := by decide +kernel
theorem dX1_settle_6 : decode cX1_settle 6 = .ok (.getfield 19, 3) := by decide +kernel
theorem dX1_settle_9 : decode cX1_settle 9 = .ok (.arraylength, 1) := by decide +kernel
theorem dX1_settle_10 : decode cX1_settle 10 = .ok (.invokestatic 74, 3) := by decide +kernel
theorem dX1_settle_13 : decode cX1_settle 13 = .ok (.ifCond .eq 47, 3) := by decide +kernel
theorem dX1_settle_16 : decode cX1_settle 16 = .ok (.aload_n 0, 1) := by decide +kernel
theorem dX1_settle_17 : decode cX1_settle 17 = .ok (.getfield 19, 3) := by decide +kernel
theorem dX1_settle_20 : decode cX1_settle 20 = .ok (.aload_n 0, 1) := by decide +kernel
theorem dX1_settle_21 : decode cX1_settle 21 = .ok (.getfield 25, 3) := by decide +kernel
theorem dX1_settle_24 : decode cX1_settle 24 = .ok (.iconst 1, 1) := by decide +kernel
theorem dX1_settle_25 : decode cX1_settle 25 = .ok (.isub, 1) := by decide +kernel
theorem dX1_settle_26 : decode cX1_settle 26 = .ok (.iaload, 1) := by decide +kernel
theorem dX1_settle_27 : decode cX1_settle 27 = .ok (.invokestatic 78, 3) := by decide +kernel
theorem dX1_settle_30 : decode cX1_settle 30 = .ok (.iload_n 1, 1) := by decide +kernel
theorem dX1_settle_31 : decode cX1_settle 31 = .ok (.if_icmp .lt 29, 3) := by decide +kernel
theorem dX1_settle_34 : decode cX1_settle 34 = .ok (.aload_n 0, 1) := by decide +kernel
theorem dX1_settle_35 : decode cX1_settle 35 = .ok (.dup, 1) := by decide +kernel
theorem dX1_settle_36 : decode cX1_settle 36 = .ok (.getfield 25, 3) := by decide +kernel
theorem dX1_settle_39 : decode cX1_settle 39 = .ok (.iconst 1, 1) := by decide +kernel
theorem dX1_settle_40 : decode cX1_settle 40 = .ok (.isub, 1) := by decide +kernel
theorem dX1_settle_41 : decode cX1_settle 41 = .ok (.putfield 25, 3) := by decide +kernel
theorem dX1_settle_44 : decode cX1_settle 44 = .ok (.aload_n 0, 1) := by decide +kernel
theorem dX1_settle_45 : decode cX1_settle 45 = .ok (.aload_n 0, 1) := by decide +kernel
theorem dX1_settle_46 : decode cX1_settle 46 = .ok (.getfield 19, 3) := by decide +kernel
theorem dX1_settle_49 : decode cX1_settle 49 = .ok (.aload_n 0, 1) := by decide +kernel
theorem dX1_settle_50 : decode cX1_settle 50 = .ok (.getfield 25, 3) := by decide +kernel
theorem dX1_settle_53 : decode cX1_settle 53 = .ok (.iaload, 1) := by decide +kernel
theorem dX1_settle_54 : decode cX1_settle 54 = .ok (.invokevirtual 62, 3) := by decide +kernel
theorem dX1_settle_57 : decode cX1_settle 57 = .ok (.goto (-57), 3) := by decide +kernel
theorem dX1_settle_60 : decode cX1_settle 60 = .ok (.return_, 1) := by decide +kernel
def f_Coder_settle_b0 (F : Nat) : Nat → St → Int32 → Option (St)
  | 0, _, _ => none
  | n + 1, s, l1 =>
    (f_P_isIn F s (gI s 1668) 1 40).bind fun x1 => (if x1.1 = 0 then
      (some x1.2)
    else
      ((ix 40 ((gI x1.2 1668) - 1)).bind fun j2 => ((f_Coder_rankOf F x1.2 (gA x1.2 28 j2)).bind fun x3 => (if x3.1 < l1 then
        (some x3.2)
      else
        (lt (sI x3.2 1668 ((gI x3.2 1668) - 1)) fun s4 => ((ix 40 (gI s4 1668)).bind fun j5 => ((f_Coder_put F s4 (gA s4 28 j5)).bind fun x6 => (f_Coder_settle_b0 F n x6 l1))))))))
def f_Coder_settle (F : Nat) (s : St) (p1 : Int32) : Option (St) :=
  f_Coder_settle_b0 F F s p1
set_option maxHeartbeats 1000000 in
theorem c_f_Coder_settle_b0 {F : Nat} {Γ : Ga} {D : DD} {B : Nat} {s' : St} (X : Cx Γ RX1 cX1_settle 2 D B { frames := 2, cells := 0, slots := 0, locals := 43 }) (hr : (Gme Γ).sig.returnType = none) : ∀ (n : Nat) {s : St} {l1 : Int32}, f_Coder_settle_b0 F n s l1 = some s' → V Γ D B true 2 (QM Γ D B true s' none 0 0) 0 0 s 0 [(0, .ref (B + 26)), (1, .int l1)] [] := by
  intro n
  induction n with
  | zero => intro s l1 hf; rw [f_Coder_settle_b0] at hf; cases hf
  | succ n ih =>
    intro s l1 hf
    rw [f_Coder_settle_b0] at hf
    refine r_aload_n (x := some 26) (pc := 0) X dX1_settle_0 0 rfl ?_
    refine r_get (j := 4) (pc := 1) X ce_26 rfl inT1 (by decide) w_208 rfl dX1_settle_1 ?_
    refine r_iconst (v := 1) (pc := 4) X dX1_settle_4 (by decide) ?_
    refine r_aload_n (x := some 26) (pc := 5) X dX1_settle_5 0 rfl ?_
    refine r_get (j := 2) (pc := 6) X ce_26 rfl inT1 (by decide) w_206 rfl dX1_settle_6 ?_
    refine r_alen (t0 := 1) (v := 40) (pc := 9) X ce_28 rfl (by decide) dX1_settle_9 ?_
    refine bnd hf (fun x1 h1 hf => ?_)
    refine r_callSNi (As := [.int (gI s 1668), .int 1, .int 40]) (st := []) (pc := 10) X (c_f_P_isIn h1) rfl wn_912 w_342 w_36 w_343 hdS_X10_isIn (by decide) (by decide) (by decide) (Nat.le_of_ble_eq_true rfl) dX1_settle_10 rfl ?_
    refine b_if_eq (tgt := 60) (pc := 13) X dX1_settle_13 (by decide) hf (fun hf => ?_) (fun hf => ?_)
    · exact e_vret (pc := 60) X hr hf (Nat.le_refl _) (Nat.le_refl _) dX1_settle_60
    · refine r_aload_n (x := some 26) (pc := 16) X dX1_settle_16 0 rfl ?_
      refine r_get (j := 2) (pc := 17) X ce_26 rfl inT1 (by decide) w_206 rfl dX1_settle_17 ?_
      refine r_aload_n (x := some 26) (pc := 20) X dX1_settle_20 0 rfl ?_
      refine r_get (j := 4) (pc := 21) X ce_26 rfl inT1 (by decide) w_208 rfl dX1_settle_21 ?_
      refine r_iconst (v := 1) (pc := 24) X dX1_settle_24 (by decide) ?_
      refine r_isub (pc := 25) X dX1_settle_25 ?_
      refine b_iald (pc := 26) X ce_28 dX1_settle_26 hf (fun j2 hf => ?_)
      refine bnd hf (fun x3 h3 hf => ?_)
      refine r_callSi (As := [.int (gA x1.2 28 j2)]) (st := []) (pc := 27) X (c_f_Coder_rankOf h3) rfl w_931 w_932 w_42 w_933 hdS_X1_rankOf (by decide) (by decide) (by decide) (Nat.le_of_ble_eq_true rfl) dX1_settle_27 rfl ?_
      refine r_iload_n (pc := 30) X dX1_settle_30 1 rfl ?_
      refine b_icmp_lt (tgt := 60) (pc := 31) X dX1_settle_31 (by decide) hf (fun hf => ?_) (fun hf => ?_)
      · exact e_vret (pc := 60) X hr hf (Nat.le_refl _) (Nat.le_refl _) dX1_settle_60
      · refine r_aload_n (x := some 26) (pc := 34) X dX1_settle_34 0 rfl ?_
        refine r_dup (pc := 35) X dX1_settle_35 rfl ?_
        refine r_get (j := 4) (pc := 36) X ce_26 rfl inT1 (by decide) w_208 rfl dX1_settle_36 ?_
        refine r_iconst (v := 1) (pc := 39) X dX1_settle_39 (by decide) ?_
        refine r_isub (pc := 40) X dX1_settle_40 ?_
        refine b_put (j := 4) (pc := 41) X ce_26 rfl inT1 tyX1 tyX1_ok nmX1 (by decide) w_208 rfl (tyX1_ok 4 (by decide)) rfl rfl (Nat.le_of_ble_eq_true rfl) (cp_1668 _) rfl rfl dX1_settle_41 hf (fun s4 hf => ?_)
        refine r_aload_n (x := some 26) (pc := 44) X dX1_settle_44 0 rfl ?_
        refine r_aload_n (x := some 26) (pc := 45) X dX1_settle_45 0 rfl ?_
        refine r_get (j := 2) (pc := 46) X ce_26 rfl inT1 (by decide) w_206 rfl dX1_settle_46 ?_
        refine r_aload_n (x := some 26) (pc := 49) X dX1_settle_49 0 rfl ?_
        refine r_get (j := 4) (pc := 50) X ce_26 rfl inT1 (by decide) w_208 rfl dX1_settle_50 ?_
        refine b_iald (pc := 53) X ce_28 dX1_settle_53 hf (fun j5 hf => ?_)
        refine bnd hf (fun x6 h6 hf => ?_)
        refine r_callVv (As := [.int (gA s4 28 j5)]) (st := []) (pc := 54) X (c_f_Coder_put h6) rfl w_908 w_910 w_24 w_42 w_911 hdV_X1_put (Rc.s rfl ce_26) (by decide) (by decide) (by decide) (Nat.le_of_ble_eq_true rfl) dX1_settle_54 rfl ?_
        refine r_goto (tgt := 0) (pc := 57) X dX1_settle_57 (by decide) ?_
        exact ih hf
set_option maxHeartbeats 1000000 in
theorem c_f_Coder_settle {F : Nat} {s : St} {p1 : Int32} {s' : St} (hf : f_Coder_settle F s p1 = some s') : CC true yX1_settle (Cond.code yX1_settle cX1_settle 2 none) 2 43 (fun B => [.ref (B + 26), .int p1]) s (fun B => none) s' 0 0 := by
  refine CC.of (fun B => [(0, .ref (B + 26)), (1, .int p1)]) (by decide +kernel) (fun _ => rfl) (fun _ => (by simp [lg_sl, rfB_cat, catI, catL, catR])) (fun Γ D B X hr hin => ?_)
  have X : Cx Γ RX1 cX1_settle 2 D B { frames := 2, cells := 0, slots := 0, locals := 43 } := X
  unfold f_Coder_settle at hf
  exact c_f_Coder_settle_b0 X hr _ hf
/-! f_Coder_push -/
theorem dX1_push_0 : decode cX1_push 0 = .ok (.aload_n 0, 1) := by decide +kernel
theorem dX1_push_1 : decode cX1_push 1 = .ok (.getfield 25, 3) := by decide +kernel
theorem dX1_push_4 : decode cX1_push 4 = .ok (.iconst 0, 1) := by decide +kernel
theorem dX1_push_5 : decode cX1_push 5 = .ok (.aload_n 0, 1) := by decide +kernel
theorem dX1_push_6 : decode cX1_push 6 = .ok (.getfield 19, 3) := by decide +kernel
theorem dX1_push_9 : decode cX1_push 9 = .ok (.arraylength, 1) := by decide +kernel
theorem dX1_push_10 : decode cX1_push 10 = .ok (.iconst 1, 1) := by decide +kernel
theorem dX1_push_11 : decode cX1_push 11 = .ok (.isub, 1) := by decide +kernel
theorem dX1_push_12 : decode cX1_push 12 = .ok (.invokestatic 74, 3) := by decide +kernel
theorem dX1_push_15 : decode cX1_push 15 = .ok (.ifCond .eq 36, 3) := by decide +kernel
theorem dX1_push_18 : decode cX1_push 18 = .ok (.aload_n 0, 1) := by decide +kernel
theorem dX1_push_19 : decode cX1_push 19 = .ok (.getfield 19, 3) := by decide +kernel
theorem dX1_push_22 : decode cX1_push 22 = .ok (.aload_n 0, 1) := by decide +kernel
theorem dX1_push_23 : decode cX1_push 23 = .ok (.getfield 25, 3) := by decide +kernel
theorem dX1_push_26 : decode cX1_push 26 = .ok (.iload_n 1, 1) := by decide +kernel
theorem dX1_push_27 : decode cX1_push 27 = .ok (.iastore, 1) := by decide +kernel
theorem dX1_push_28 : decode cX1_push 28 = .ok (.aload_n 0, 1) := by decide +kernel
theorem dX1_push_29 : decode cX1_push 29 = .ok (.getfield 22, 3) := by decide +kernel
theorem dX1_push_32 : decode cX1_push 32 = .ok (.aload_n 0, 1) := by decide +kernel
theorem dX1_push_33 : decode cX1_push 33 = .ok (.getfield 25, 3) := by decide +kernel
theorem dX1_push_36 : decode cX1_push 36 = .ok (.aload_n 0, 1) := by decide +kernel
theorem dX1_push_37 : decode cX1_push 37 = .ok (.getfield 15, 3) := by decide +kernel
theorem dX1_push_40 : decode cX1_push 40 = .ok (.iastore, 1) := by decide +kernel
theorem dX1_push_41 : decode cX1_push 41 = .ok (.aload_n 0, 1) := by decide +kernel
theorem dX1_push_42 : decode cX1_push 42 = .ok (.dup, 1) := by decide +kernel
theorem dX1_push_43 : decode cX1_push 43 = .ok (.getfield 25, 3) := by decide +kernel
theorem dX1_push_46 : decode cX1_push 46 = .ok (.iconst 1, 1) := by decide +kernel
theorem dX1_push_47 : decode cX1_push 47 = .ok (.iadd, 1) := by decide +kernel
theorem dX1_push_48 : decode cX1_push 48 = .ok (.putfield 25, 3) := by decide +kernel
theorem dX1_push_51 : decode cX1_push 51 = .ok (.return_, 1) := by decide +kernel
def f_Coder_push (F : Nat) (s : St) (p1 : Int32) : Option (St) :=
  (f_P_isIn F s (gI s 1668) 0 ((40 : Int32) - 1)).bind fun x1 => (if x1.1 = 0 then
    (some x1.2)
  else
    ((ix 40 (gI x1.2 1668)).bind fun j2 => (lt (sA x1.2 28 j2 p1) fun s3 => ((ix 40 (gI s3 1668)).bind fun j4 => (lt (sA s3 29 j4 (gI s3 1665)) fun s5 => (lt (sI s5 1668 ((gI s5 1668) + 1)) fun s6 => (some s6)))))))
set_option maxHeartbeats 1000000 in
theorem c_f_Coder_push {F : Nat} {s : St} {p1 : Int32} {s' : St} (hf : f_Coder_push F s p1 = some s') : CC true yX1_push (Cond.code yX1_push cX1_push 2 none) 1 22 (fun B => [.ref (B + 26), .int p1]) s (fun B => none) s' 0 0 := by
  refine CC.of (fun B => [(0, .ref (B + 26)), (1, .int p1)]) (by decide +kernel) (fun _ => rfl) (fun _ => (by simp [lg_sl, rfB_cat, catI, catL, catR])) (fun Γ D B X hr hin => ?_)
  have X : Cx Γ RX1 cX1_push 2 D B { frames := 1, cells := 0, slots := 0, locals := 22 } := X
  unfold f_Coder_push at hf
  refine r_aload_n (x := some 26) (pc := 0) X dX1_push_0 0 rfl ?_
  refine r_get (j := 4) (pc := 1) X ce_26 rfl inT1 (by decide) w_208 rfl dX1_push_1 ?_
  refine r_iconst (v := 0) (pc := 4) X dX1_push_4 (by decide) ?_
  refine r_aload_n (x := some 26) (pc := 5) X dX1_push_5 0 rfl ?_
  refine r_get (j := 2) (pc := 6) X ce_26 rfl inT1 (by decide) w_206 rfl dX1_push_6 ?_
  refine r_alen (t0 := 1) (v := 40) (pc := 9) X ce_28 rfl (by decide) dX1_push_9 ?_
  refine r_iconst (v := 1) (pc := 10) X dX1_push_10 (by decide) ?_
  refine r_isub (pc := 11) X dX1_push_11 ?_
  refine bnd hf (fun x1 h1 hf => ?_)
  refine r_callSNi (As := [.int (gI s 1668), .int 0, .int ((40 : Int32) - 1)]) (st := []) (pc := 12) X (c_f_P_isIn h1) rfl wn_912 w_342 w_36 w_343 hdS_X10_isIn (by decide) (by decide) (by decide) (Nat.le_of_ble_eq_true rfl) dX1_push_12 rfl ?_
  refine b_if_eq (tgt := 51) (pc := 15) X dX1_push_15 (by decide) hf (fun hf => ?_) (fun hf => ?_)
  · exact e_vret (pc := 51) X hr hf (Nat.le_refl _) (Nat.le_refl _) dX1_push_51
  · refine r_aload_n (x := some 26) (pc := 18) X dX1_push_18 0 rfl ?_
    refine r_get (j := 2) (pc := 19) X ce_26 rfl inT1 (by decide) w_206 rfl dX1_push_19 ?_
    refine r_aload_n (x := some 26) (pc := 22) X dX1_push_22 0 rfl ?_
    refine r_get (j := 4) (pc := 23) X ce_26 rfl inT1 (by decide) w_208 rfl dX1_push_23 ?_
    refine r_iload_n (pc := 26) X dX1_push_26 1 rfl ?_
    refine b_iast (pc := 27) X ce_28 (fun _ => ca_28 _ _) dX1_push_27 hf (fun j2 s3 hf => ?_)
    refine r_aload_n (x := some 26) (pc := 28) X dX1_push_28 0 rfl ?_
    refine r_get (j := 3) (pc := 29) X ce_26 rfl inT1 (by decide) w_207 rfl dX1_push_29 ?_
    refine r_aload_n (x := some 26) (pc := 32) X dX1_push_32 0 rfl ?_
    refine r_get (j := 4) (pc := 33) X ce_26 rfl inT1 (by decide) w_208 rfl dX1_push_33 ?_
    refine r_aload_n (x := some 26) (pc := 36) X dX1_push_36 0 rfl ?_
    refine r_get (j := 1) (pc := 37) X ce_26 rfl inT1 (by decide) w_204 rfl dX1_push_37 ?_
    refine b_iast (pc := 40) X ce_29 (fun _ => ca_29 _ _) dX1_push_40 hf (fun j4 s5 hf => ?_)
    refine r_aload_n (x := some 26) (pc := 41) X dX1_push_41 0 rfl ?_
    refine r_dup (pc := 42) X dX1_push_42 rfl ?_
    refine r_get (j := 4) (pc := 43) X ce_26 rfl inT1 (by decide) w_208 rfl dX1_push_43 ?_
    refine r_iconst (v := 1) (pc := 46) X dX1_push_46 (by decide) ?_
    refine r_iadd (pc := 47) X dX1_push_47 ?_
    refine b_put (j := 4) (pc := 48) X ce_26 rfl inT1 tyX1 tyX1_ok nmX1 (by decide) w_208 rfl (tyX1_ok 4 (by decide)) rfl rfl (Nat.le_of_ble_eq_true rfl) (cp_1668 _) rfl rfl dX1_push_48 hf (fun s6 hf => ?_)
    exact e_vret (pc := 51) X hr hf (Nat.le_refl _) (Nat.le_refl _) dX1_push_51
/-! f_Coder_close -/
theorem dX1_close_0 : decode cX1_close 0 = .ok (.aload_n 0, 1) := by decide +kernel
theorem dX1_close_1 : decode cX1_close 1 = .ok (.iconst 1, 1) := by decide +kernel
theorem dX1_close_2 : decode cX1_close 2 = .ok (.invokevirtual 42, 3) := by decide +kernel
theorem dX1_close_5 : decode cX1_close 5 = .ok (.aload_n 0, 1) := by decide +kernel
theorem dX1_close_6 : decode cX1_close 6 = .ok (.iconst 1, 1) := by decide +kernel
theorem dX1_close_7 : decode cX1_close 7 = .ok (.putfield 28, 3) := by decide +kernel
theorem dX1_close_10 : decode cX1_close 10 = .ok (.aload_n 0, 1) := by decide +kernel
theorem dX1_close_11 : decode cX1_close 11 = .ok (.getfield 25, 3) := by decide +kernel
theorem dX1_close_14 : decode cX1_close 14 = .ok (.iconst 1, 1) := by decide +kernel
theorem dX1_close_15 : decode cX1_close 15 = .ok (.aload_n 0, 1) := by decide +kernel
theorem dX1_close_16 : decode cX1_close 16 = .ok (.getfield 19, 3) := by decide +kernel
theorem dX1_close_19 : decode cX1_close 19 = .ok (.arraylength, 1) := by decide +kernel
theorem dX1_close_20 : decode cX1_close 20 = .ok (.invokestatic 74, 3) := by decide +kernel
theorem dX1_close_23 : decode cX1_close 23 = .ok (.ifCond .ne 4, 3) := by decide +kernel
theorem dX1_close_26 : decode cX1_close 26 = .ok (.return_, 1) := by decide +kernel
theorem dX1_close_27 : decode cX1_close 27 = .ok (.aload_n 0, 1) := by decide +kernel
theorem dX1_close_28 : decode cX1_close 28 = .ok (.dup, 1) := by decide +kernel
theorem dX1_close_29 : decode cX1_close 29 = .ok (.getfield 25, 3) := by decide +kernel
theorem dX1_close_32 : decode cX1_close 32 = .ok (.iconst 1, 1) := by decide +kernel
theorem dX1_close_33 : decode cX1_close 33 = .ok (.isub, 1) := by decide +kernel
theorem dX1_close_34 : decode cX1_close 34 = .ok (.putfield 25, 3) := by decide +kernel
theorem dX1_close_37 : decode cX1_close 37 = .ok (.aload_n 0, 1) := by decide +kernel
theorem dX1_close_38 : decode cX1_close 38 = .ok (.getfield 22, 3) := by decide +kernel
theorem dX1_close_41 : decode cX1_close 41 = .ok (.aload_n 0, 1) := by decide +kernel
theorem dX1_close_42 : decode cX1_close 42 = .ok (.getfield 25, 3) := by decide +kernel
theorem dX1_close_45 : decode cX1_close 45 = .ok (.iaload, 1) := by decide +kernel
theorem dX1_close_46 : decode cX1_close 46 = .ok (.iconst 3, 1) := by decide +kernel
theorem dX1_close_47 : decode cX1_close 47 = .ok (.iadd, 1) := by decide +kernel
theorem dX1_close_48 : decode cX1_close 48 = .ok (.istore_n 1, 1) := by decide +kernel
theorem dX1_close_49 : decode cX1_close 49 = .ok (.aload_n 0, 1) := by decide +kernel
theorem dX1_close_50 : decode cX1_close 50 = .ok (.getfield 19, 3) := by decide +kernel
theorem dX1_close_53 : decode cX1_close 53 = .ok (.aload_n 0, 1) := by decide +kernel
theorem dX1_close_54 : decode cX1_close 54 = .ok (.getfield 25, 3) := by decide +kernel
theorem dX1_close_57 : decode cX1_close 57 = .ok (.iaload, 1) := by decide +kernel
theorem dX1_close_58 : decode cX1_close 58 = .ok (.invokestatic 53, 3) := by decide +kernel
theorem dX1_close_61 : decode cX1_close 61 = .ok (.ifCond .eq 38, 3) := by decide +kernel
theorem dX1_close_64 : decode cX1_close 64 = .ok (.iload_n 1, 1) := by decide +kernel
theorem dX1_close_65 : decode cX1_close 65 = .ok (.aload_n 0, 1) := by decide +kernel
theorem dX1_close_66 : decode cX1_close 66 = .ok (.getfield 15, 3) := by decide +kernel
theorem dX1_close_69 : decode cX1_close 69 = .ok (.if_icmp .gt 30, 3) := by decide +kernel
theorem dX1_close_72 : decode cX1_close 72 = .ok (.iload_n 1, 1) := by decide +kernel
theorem dX1_close_73 : decode cX1_close 73 = .ok (.iconst 1, 1) := by decide +kernel
theorem dX1_close_74 : decode cX1_close 74 = .ok (.aload_n 0, 1) := by decide +kernel
theorem dX1_close_75 : decode cX1_close 75 = .ok (.getfield 9, 3) := by decide +kernel
theorem dX1_close_78 : decode cX1_close 78 = .ok (.arraylength, 1) := by decide +kernel
theorem dX1_close_79 : decode cX1_close 79 = .ok (.invokestatic 74, 3) := by decide +kernel
theorem dX1_close_82 : decode cX1_close 82 = .ok (.ifCond .eq 17, 3) := by decide +kernel
theorem dX1_close_85 : decode cX1_close 85 = .ok (.aload_n 0, 1) := by decide +kernel
theorem dX1_close_86 : decode cX1_close 86 = .ok (.getfield 9, 3) := by decide +kernel
theorem dX1_close_89 : decode cX1_close 89 = .ok (.iload_n 1, 1) := by decide +kernel
theorem dX1_close_90 : decode cX1_close 90 = .ok (.iconst 1, 1) := by decide +kernel
theorem dX1_close_91 : decode cX1_close 91 = .ok (.isub, 1) := by decide +kernel
theorem dX1_close_92 : decode cX1_close 92 = .ok (.aload_n 0, 1) := by decide +kernel
theorem dX1_close_93 : decode cX1_close 93 = .ok (.getfield 15, 3) := by decide +kernel
theorem dX1_close_96 : decode cX1_close 96 = .ok (.iload_n 1, 1) := by decide +kernel
theorem dX1_close_97 : decode cX1_close 97 = .ok (.isub, 1) := by decide +kernel
theorem dX1_close_98 : decode cX1_close 98 = .ok (.iastore, 1) := by decide +kernel
theorem dX1_close_99 : decode cX1_close 99 = .ok (.return_, 1) := by decide +kernel
def f_Coder_close (F : Nat) (s : St)  : Option (St) :=
  (f_Coder_settle F s 1).bind fun x1 => (lt (sI x1 1669 1) fun s2 => ((f_P_isIn F s2 (gI s2 1668) 1 40).bind fun x3 => (if x3.1 = 0 then
    (some x3.2)
  else
    (lt (sI x3.2 1668 ((gI x3.2 1668) - 1)) fun s4 => ((ix 40 (gI s4 1668)).bind fun j5 => ((ix 40 (gI s4 1668)).bind fun j6 => ((f_P_isAggregate F s4 (gA s4 28 j6)).bind fun x7 => (if x7.1 = 0 then
      (some x7.2)
    else
      (if (gI x7.2 1665) < ((gA s4 29 j5) + 3) then
        (some x7.2)
      else
        ((f_P_isIn F x7.2 ((gA s4 29 j5) + 3) 1 80).bind fun x8 => (if x8.1 = 0 then
          (some x8.2)
        else
          ((ix 80 (((gA s4 29 j5) + 3) - 1)).bind fun j9 => (lt (sA x8.2 27 j9 ((gI x8.2 1665) - ((gA s4 29 j5) + 3))) fun s10 => (some s10))))))))))))))
set_option maxHeartbeats 1000000 in
theorem c_f_Coder_close {F : Nat} {s : St}  {s' : St} (hf : f_Coder_close F s  = some s') : CC true yX1_close (Cond.code yX1_close cX1_close 2 none) 3 64 (fun B => [.ref (B + 26)]) s (fun B => none) s' 0 0 := by
  refine CC.of (fun B => [(0, .ref (B + 26))]) (by decide +kernel) (fun _ => rfl) (fun _ => (by simp [lg_sl, rfB_cat, catI, catL, catR])) (fun Γ D B X hr hin => ?_)
  have X : Cx Γ RX1 cX1_close 2 D B { frames := 3, cells := 0, slots := 0, locals := 64 } := X
  unfold f_Coder_close at hf
  refine r_aload_n (x := some 26) (pc := 0) X dX1_close_0 0 rfl ?_
  refine r_iconst (v := 1) (pc := 1) X dX1_close_1 (by decide) ?_
  refine bnd hf (fun x1 h1 hf => ?_)
  refine r_callVv (As := [.int 1]) (st := []) (pc := 2) X (c_f_Coder_settle h1) rfl w_927 w_929 w_28 w_42 w_930 hdV_X1_settle (Rc.s rfl ce_26) (by decide) (by decide) (by decide) (Nat.le_of_ble_eq_true rfl) dX1_close_2 rfl ?_
  refine r_aload_n (x := some 26) (pc := 5) X dX1_close_5 0 rfl ?_
  refine r_iconst (v := 1) (pc := 6) X dX1_close_6 (by decide) ?_
  refine b_put (j := 5) (pc := 7) X ce_26 rfl inT1 tyX1 tyX1_ok nmX1 (by decide) w_209 rfl (tyX1_ok 5 (by decide)) rfl rfl (Nat.le_of_ble_eq_true rfl) (cp_1669 _) rfl rfl dX1_close_7 hf (fun s2 hf => ?_)
  refine r_aload_n (x := some 26) (pc := 10) X dX1_close_10 0 rfl ?_
  refine r_get (j := 4) (pc := 11) X ce_26 rfl inT1 (by decide) w_208 rfl dX1_close_11 ?_
  refine r_iconst (v := 1) (pc := 14) X dX1_close_14 (by decide) ?_
  refine r_aload_n (x := some 26) (pc := 15) X dX1_close_15 0 rfl ?_
  refine r_get (j := 2) (pc := 16) X ce_26 rfl inT1 (by decide) w_206 rfl dX1_close_16 ?_
  refine r_alen (t0 := 1) (v := 40) (pc := 19) X ce_28 rfl (by decide) dX1_close_19 ?_
  refine bnd hf (fun x3 h3 hf => ?_)
  refine r_callSNi (As := [.int (gI s2 1668), .int 1, .int 40]) (st := []) (pc := 20) X (c_f_P_isIn h3) rfl wn_912 w_342 w_36 w_343 hdS_X10_isIn (by decide) (by decide) (by decide) (Nat.le_of_ble_eq_true rfl) dX1_close_20 rfl ?_
  refine b_if_ne (tgt := 27) (pc := 23) X dX1_close_23 (by decide) hf (fun hf => ?_) (fun hf => ?_)
  · exact e_vret (pc := 26) X hr hf (Nat.le_refl _) (Nat.le_refl _) dX1_close_26
  · refine r_aload_n (x := some 26) (pc := 27) X dX1_close_27 0 rfl ?_
    refine r_dup (pc := 28) X dX1_close_28 rfl ?_
    refine r_get (j := 4) (pc := 29) X ce_26 rfl inT1 (by decide) w_208 rfl dX1_close_29 ?_
    refine r_iconst (v := 1) (pc := 32) X dX1_close_32 (by decide) ?_
    refine r_isub (pc := 33) X dX1_close_33 ?_
    refine b_put (j := 4) (pc := 34) X ce_26 rfl inT1 tyX1 tyX1_ok nmX1 (by decide) w_208 rfl (tyX1_ok 4 (by decide)) rfl rfl (Nat.le_of_ble_eq_true rfl) (cp_1668 _) rfl rfl dX1_close_34 hf (fun s4 hf => ?_)
    refine r_aload_n (x := some 26) (pc := 37) X dX1_close_37 0 rfl ?_
    refine r_get (j := 3) (pc := 38) X ce_26 rfl inT1 (by decide) w_207 rfl dX1_close_38 ?_
    refine r_aload_n (x := some 26) (pc := 41) X dX1_close_41 0 rfl ?_
    refine r_get (j := 4) (pc := 42) X ce_26 rfl inT1 (by decide) w_208 rfl dX1_close_42 ?_
    refine b_iald (pc := 45) X ce_29 dX1_close_45 hf (fun j5 hf => ?_)
    refine r_iconst (v := 3) (pc := 46) X dX1_close_46 (by decide) ?_
    refine r_iadd (pc := 47) X dX1_close_47 ?_
    refine r_istore_n (pc := 48) (lv' := [(0, .ref (B + 26)), (1, .int ((gA s4 29 j5) + 3))]) X dX1_close_48 (by decide) [1, 0] rfl ?_
    refine r_aload_n (x := some 26) (pc := 49) X dX1_close_49 0 rfl ?_
    refine r_get (j := 2) (pc := 50) X ce_26 rfl inT1 (by decide) w_206 rfl dX1_close_50 ?_
    refine r_aload_n (x := some 26) (pc := 53) X dX1_close_53 0 rfl ?_
    refine r_get (j := 4) (pc := 54) X ce_26 rfl inT1 (by decide) w_208 rfl dX1_close_54 ?_
    refine b_iald (pc := 57) X ce_28 dX1_close_57 hf (fun j6 hf => ?_)
    refine bnd hf (fun x7 h7 hf => ?_)
    refine r_callSNi (As := [.int (gA s4 28 j6)]) (st := []) (pc := 58) X (c_f_P_isAggregate h7) rfl wn_913 w_560 w_36 w_561 hdS_X10_isAggregate (by decide) (by decide) (by decide) (Nat.le_of_ble_eq_true rfl) dX1_close_58 rfl ?_
    refine b_if_eq (tgt := 99) (pc := 61) X dX1_close_61 (by decide) hf (fun hf => ?_) (fun hf => ?_)
    · exact e_vret (pc := 99) X hr hf (Nat.le_refl _) (Nat.le_refl _) dX1_close_99
    · refine r_iload_n (pc := 64) X dX1_close_64 1 rfl ?_
      refine r_aload_n (x := some 26) (pc := 65) X dX1_close_65 0 rfl ?_
      refine r_get (j := 1) (pc := 66) X ce_26 rfl inT1 (by decide) w_204 rfl dX1_close_66 ?_
      refine b_icmp_gt (tgt := 99) (pc := 69) X dX1_close_69 (by decide) hf (fun hf => ?_) (fun hf => ?_)
      · exact e_vret (pc := 99) X hr hf (Nat.le_refl _) (Nat.le_refl _) dX1_close_99
      · refine r_iload_n (pc := 72) X dX1_close_72 1 rfl ?_
        refine r_iconst (v := 1) (pc := 73) X dX1_close_73 (by decide) ?_
        refine r_aload_n (x := some 26) (pc := 74) X dX1_close_74 0 rfl ?_
        refine r_get (j := 0) (pc := 75) X ce_26 rfl inT1 (by decide) w_202 rfl dX1_close_75 ?_
        refine r_alen (t0 := 1) (v := 80) (pc := 78) X ce_27 rfl (by decide) dX1_close_78 ?_
        refine bnd hf (fun x8 h8 hf => ?_)
        refine r_callSNi (As := [.int ((gA s4 29 j5) + 3), .int 1, .int 80]) (st := []) (pc := 79) X (c_f_P_isIn h8) rfl wn_912 w_342 w_36 w_343 hdS_X10_isIn (by decide) (by decide) (by decide) (Nat.le_of_ble_eq_true rfl) dX1_close_79 rfl ?_
        refine b_if_eq (tgt := 99) (pc := 82) X dX1_close_82 (by decide) hf (fun hf => ?_) (fun hf => ?_)
        · exact e_vret (pc := 99) X hr hf (Nat.le_refl _) (Nat.le_refl _) dX1_close_99
        · refine r_aload_n (x := some 26) (pc := 85) X dX1_close_85 0 rfl ?_
          refine r_get (j := 0) (pc := 86) X ce_26 rfl inT1 (by decide) w_202 rfl dX1_close_86 ?_
          refine r_iload_n (pc := 89) X dX1_close_89 1 rfl ?_
          refine r_iconst (v := 1) (pc := 90) X dX1_close_90 (by decide) ?_
          refine r_isub (pc := 91) X dX1_close_91 ?_
          refine r_aload_n (x := some 26) (pc := 92) X dX1_close_92 0 rfl ?_
          refine r_get (j := 1) (pc := 93) X ce_26 rfl inT1 (by decide) w_204 rfl dX1_close_93 ?_
          refine r_iload_n (pc := 96) X dX1_close_96 1 rfl ?_
          refine r_isub (pc := 97) X dX1_close_97 ?_
          refine b_iast (pc := 98) X ce_27 (fun _ => ca_27 _ _) dX1_close_98 hf (fun j9 s10 hf => ?_)
          exact e_vret (pc := 99) X hr hf (Nat.le_refl _) (Nat.le_refl _) dX1_close_99
/-! f_Coder_turnSign -/
theorem dX1_turnSign_0 : decode cX1_turnSign 0 = .ok (.iload_n 1, 1) := by decide +kernel
theorem dX1_turnSign_1 : decode cX1_turnSign 1 = .ok (.bipush 45, 2) := by decide +kernel
theorem dX1_turnSign_3 : decode cX1_turnSign 3 = .ok (.if_icmp .ne 15, 3) := by decide +kernel
theorem dX1_turnSign_6 : decode cX1_turnSign 6 = .ok (.aload_n 0, 1) := by decide +kernel
theorem dX1_turnSign_7 : decode cX1_turnSign 7 = .ok (.getfield 28, 3) := by decide +kernel
theorem dX1_turnSign_10 : decode cX1_turnSign 10 = .ok (.ifCond .ne 8, 3) := by decide +kernel
theorem dX1_turnSign_13 : decode cX1_turnSign 13 = .ok (.bipush 126, 2) := by decide +kernel
theorem dX1_turnSign_15 : decode cX1_turnSign 15 = .ok (.goto 4, 3) := by decide +kernel
theorem dX1_turnSign_18 : decode cX1_turnSign 18 = .ok (.iload_n 1, 1) := by decide +kernel
theorem dX1_turnSign_19 : decode cX1_turnSign 19 = .ok (.istore_n 2, 1) := by decide +kernel
theorem dX1_turnSign_20 : decode cX1_turnSign 20 = .ok (.iload_n 2, 1) := by decide +kernel
theorem dX1_turnSign_21 : decode cX1_turnSign 21 = .ok (.bipush 126, 2) := by decide +kernel
theorem dX1_turnSign_23 : decode cX1_turnSign 23 = .ok (.if_icmp .eq 17, 3) := by decide +kernel
theorem dX1_turnSign_26 : decode cX1_turnSign 26 = .ok (.iload_n 2, 1) := by decide +kernel
theorem dX1_turnSign_27 : decode cX1_turnSign 27 = .ok (.bipush 33, 2) := by decide +kernel
theorem dX1_turnSign_29 : decode cX1_turnSign 29 = .ok (.if_icmp .eq 11, 3) := by decide +kernel
theorem dX1_turnSign_32 : decode cX1_turnSign 32 = .ok (.aload_n 0, 1) := by decide +kernel
theorem dX1_turnSign_33 : decode cX1_turnSign 33 = .ok (.iload_n 2, 1) := by decide +kernel
theorem dX1_turnSign_34 : decode cX1_turnSign 34 = .ok (.invokestatic 78, 3) := by decide +kernel
theorem dX1_turnSign_37 : decode cX1_turnSign 37 = .ok (.invokevirtual 42, 3) := by decide +kernel
theorem dX1_turnSign_40 : decode cX1_turnSign 40 = .ok (.aload_n 0, 1) := by decide +kernel
theorem dX1_turnSign_41 : decode cX1_turnSign 41 = .ok (.iload_n 2, 1) := by decide +kernel
theorem dX1_turnSign_42 : decode cX1_turnSign 42 = .ok (.invokevirtual 65, 3) := by decide +kernel
theorem dX1_turnSign_45 : decode cX1_turnSign 45 = .ok (.aload_n 0, 1) := by decide +kernel
theorem dX1_turnSign_46 : decode cX1_turnSign 46 = .ok (.iconst 0, 1) := by decide +kernel
theorem dX1_turnSign_47 : decode cX1_turnSign 47 = .ok (.putfield 28, 3) := by decide +kernel
theorem dX1_turnSign_50 : decode cX1_turnSign 50 = .ok (.return_, 1) := by decide +kernel
def f_Coder_turnSign_b19 (F : Nat) (s : St) (t0 : Int32) : Option (St) :=
  if t0 = 126 then
    ((f_Coder_push F s t0).bind fun x1 => (lt (sI x1 1669 0) fun s2 => (some s2)))
  else
    (if t0 = 33 then
      ((f_Coder_push F s t0).bind fun x3 => (lt (sI x3 1669 0) fun s4 => (some s4)))
    else
      ((f_Coder_rankOf F s t0).bind fun x5 => ((f_Coder_settle F x5.2 x5.1).bind fun x6 => ((f_Coder_push F x6 t0).bind fun x7 => (lt (sI x7 1669 0) fun s8 => (some s8))))))
def f_Coder_turnSign (F : Nat) (s : St) (p1 : Int32) : Option (St) :=
  if p1 = 45 then
    (if (gI s 1669) = 0 then
      (f_Coder_turnSign_b19 F s 126)
    else
      (f_Coder_turnSign_b19 F s p1))
  else
    (f_Coder_turnSign_b19 F s p1)
set_option maxHeartbeats 1000000 in
theorem c_f_Coder_turnSign_b19 {F : Nat} {Γ : Ga} {D : DD} {B : Nat} {s' : St} (X : Cx Γ RX1 cX1_turnSign 3 D B { frames := 3, cells := 0, slots := 0, locals := 64 }) (hr : (Gme Γ).sig.returnType = none) {s : St} {t0 : Int32} (hf : f_Coder_turnSign_b19 F s t0 = some s') : V Γ D B true 3 (QM Γ D B true s' none 0 0) 0 0 s 19 [(0, .ref (B + 26))] [.int t0] := by
  unfold f_Coder_turnSign_b19 at hf
  refine r_istore_n (pc := 19) (lv' := [(0, .ref (B + 26)), (2, .int t0)]) X dX1_turnSign_19 (by decide) [1, 0] rfl ?_
  refine r_iload_n (pc := 20) X dX1_turnSign_20 1 rfl ?_
  refine r_bipush (v := 126) (pc := 21) X dX1_turnSign_21 (by decide) ?_
  refine b_icmp_eq (tgt := 40) (pc := 23) X dX1_turnSign_23 (by decide) hf (fun hf => ?_) (fun hf => ?_)
  · refine r_aload_n (x := some 26) (pc := 40) X dX1_turnSign_40 0 rfl ?_
    refine r_iload_n (pc := 41) X dX1_turnSign_41 1 rfl ?_
    refine bnd hf (fun x1 h1 hf => ?_)
    refine r_callVv (As := [.int t0]) (st := []) (pc := 42) X (c_f_Coder_push h1) rfl w_918 w_920 w_26 w_42 w_921 hdV_X1_push (Rc.s rfl ce_26) (by decide) (by decide) (by decide) (Nat.le_of_ble_eq_true rfl) dX1_turnSign_42 rfl ?_
    refine r_aload_n (x := some 26) (pc := 45) X dX1_turnSign_45 0 rfl ?_
    refine r_iconst (v := 0) (pc := 46) X dX1_turnSign_46 (by decide) ?_
    refine b_put (j := 5) (pc := 47) X ce_26 rfl inT1 tyX1 tyX1_ok nmX1 (by decide) w_209 rfl (tyX1_ok 5 (by decide)) rfl rfl (Nat.le_of_ble_eq_true rfl) (cp_1669 _) rfl rfl dX1_turnSign_47 hf (fun s2 hf => ?_)
    exact e_vret (pc := 50) X hr hf (Nat.le_refl _) (Nat.le_refl _) dX1_turnSign_50
  · refine r_iload_n (pc := 26) X dX1_turnSign_26 1 rfl ?_
    refine r_bipush (v := 33) (pc := 27) X dX1_turnSign_27 (by decide) ?_
    refine b_icmp_eq (tgt := 40) (pc := 29) X dX1_turnSign_29 (by decide) hf (fun hf => ?_) (fun hf => ?_)
    · refine r_aload_n (x := some 26) (pc := 40) X dX1_turnSign_40 0 rfl ?_
      refine r_iload_n (pc := 41) X dX1_turnSign_41 1 rfl ?_
      refine bnd hf (fun x3 h3 hf => ?_)
      refine r_callVv (As := [.int t0]) (st := []) (pc := 42) X (c_f_Coder_push h3) rfl w_918 w_920 w_26 w_42 w_921 hdV_X1_push (Rc.s rfl ce_26) (by decide) (by decide) (by decide) (Nat.le_of_ble_eq_true rfl) dX1_turnSign_42 rfl ?_
      refine r_aload_n (x := some 26) (pc := 45) X dX1_turnSign_45 0 rfl ?_
      refine r_iconst (v := 0) (pc := 46) X dX1_turnSign_46 (by decide) ?_
      refine b_put (j := 5) (pc := 47) X ce_26 rfl inT1 tyX1 tyX1_ok nmX1 (by decide) w_209 rfl (tyX1_ok 5 (by decide)) rfl rfl (Nat.le_of_ble_eq_true rfl) (cp_1669 _) rfl rfl dX1_turnSign_47 hf (fun s4 hf => ?_)
      exact e_vret (pc := 50) X hr hf (Nat.le_refl _) (Nat.le_refl _) dX1_turnSign_50
    · refine r_aload_n (x := some 26) (pc := 32) X dX1_turnSign_32 0 rfl ?_
      refine r_iload_n (pc := 33) X dX1_turnSign_33 1 rfl ?_
      refine bnd hf (fun x5 h5 hf => ?_)
      refine r_callSi (As := [.int t0]) (st := [.ref (B + 26)]) (pc := 34) X (c_f_Coder_rankOf h5) rfl w_931 w_932 w_42 w_933 hdS_X1_rankOf (by decide) (by decide) (by decide) (Nat.le_of_ble_eq_true rfl) dX1_turnSign_34 rfl ?_
      refine bnd hf (fun x6 h6 hf => ?_)
      refine r_callVv (As := [.int x5.1]) (st := []) (pc := 37) X (c_f_Coder_settle h6) rfl w_927 w_929 w_28 w_42 w_930 hdV_X1_settle (Rc.s rfl ce_26) (by decide) (by decide) (by decide) (Nat.le_of_ble_eq_true rfl) dX1_turnSign_37 rfl ?_
      refine r_aload_n (x := some 26) (pc := 40) X dX1_turnSign_40 0 rfl ?_
      refine r_iload_n (pc := 41) X dX1_turnSign_41 1 rfl ?_
      refine bnd hf (fun x7 h7 hf => ?_)
      refine r_callVv (As := [.int t0]) (st := []) (pc := 42) X (c_f_Coder_push h7) rfl w_918 w_920 w_26 w_42 w_921 hdV_X1_push (Rc.s rfl ce_26) (by decide) (by decide) (by decide) (Nat.le_of_ble_eq_true rfl) dX1_turnSign_42 rfl ?_
      refine r_aload_n (x := some 26) (pc := 45) X dX1_turnSign_45 0 rfl ?_
      refine r_iconst (v := 0) (pc := 46) X dX1_turnSign_46 (by decide) ?_
      refine b_put (j := 5) (pc := 47) X ce_26 rfl inT1 tyX1 tyX1_ok nmX1 (by decide) w_209 rfl (tyX1_ok 5 (by decide)) rfl rfl (Nat.le_of_ble_eq_true rfl) (cp_1669 _) rfl rfl dX1_turnSign_47 hf (fun s8 hf => ?_)
      exact e_vret (pc := 50) X hr hf (Nat.le_refl _) (Nat.le_refl _) dX1_turnSign_50
set_option maxHeartbeats 1000000 in
theorem c_f_Coder_turnSign {F : Nat} {s : St} {p1 : Int32} {s' : St} (hf : f_Coder_turnSign F s p1 = some s') : CC true yX1_turnSign (Cond.code yX1_turnSign cX1_turnSign 3 none) 3 64 (fun B => [.ref (B + 26), .int p1]) s (fun B => none) s' 0 0 := by
  refine CC.of (fun B => [(0, .ref (B + 26)), (1, .int p1)]) (by decide +kernel) (fun _ => rfl) (fun _ => (by simp [lg_sl, rfB_cat, catI, catL, catR])) (fun Γ D B X hr hin => ?_)
  have X : Cx Γ RX1 cX1_turnSign 3 D B { frames := 3, cells := 0, slots := 0, locals := 64 } := X
  unfold f_Coder_turnSign at hf
  refine r_iload_n (pc := 0) X dX1_turnSign_0 1 rfl ?_
  refine r_bipush (v := 45) (pc := 1) X dX1_turnSign_1 (by decide) ?_
  refine b_icmp_ne (tgt := 18) (pc := 3) X dX1_turnSign_3 (by decide) hf (fun hf => ?_) (fun hf => ?_)
  · refine r_aload_n (x := some 26) (pc := 6) X dX1_turnSign_6 0 rfl ?_
    refine r_get (j := 5) (pc := 7) X ce_26 rfl inT1 (by decide) w_209 rfl dX1_turnSign_7 ?_
    refine b_if_ne (tgt := 18) (pc := 10) X dX1_turnSign_10 (by decide) hf (fun hf => ?_) (fun hf => ?_)
    · refine r_bipush (v := 126) (pc := 13) X dX1_turnSign_13 (by decide) ?_
      refine r_goto (tgt := 19) (pc := 15) X dX1_turnSign_15 (by decide) ?_
      refine r_forget (lv' := [(0, .ref (B + 26))]) [0] rfl ?_
      exact c_f_Coder_turnSign_b19 X hr hf
    · refine r_iload_n (pc := 18) X dX1_turnSign_18 1 rfl ?_
      refine r_forget (lv' := [(0, .ref (B + 26))]) [0] rfl ?_
      exact c_f_Coder_turnSign_b19 X hr hf
  · refine r_iload_n (pc := 18) X dX1_turnSign_18 1 rfl ?_
    refine r_forget (lv' := [(0, .ref (B + 26))]) [0] rfl ?_
    exact c_f_Coder_turnSign_b19 X hr hf
/-! f_Coder_openAggregate -/
theorem dX1_openAggregate_0 : decode cX1_openAggregate 0 = .ok (.iload_n 2, 1) := by decide +kernel
theorem dX1_openAggregate_1 : decode cX1_openAggregate 1 = .ok (.iconst 2, 1) := by decide +kernel
theorem dX1_openAggregate_2 : decode cX1_openAggregate 2 = .ok (.iadd, 1) := by decide +kernel
theorem dX1_openAggregate_3 : decode cX1_openAggregate 3 = .ok (.istore 4, 2) := by decide +kernel
theorem dX1_openAggregate_5 : decode cX1_openAggregate 5 = .ok (.iload_n 2, 1) := by decide +kernel
theorem dX1_openAggregate_6 : decode cX1_openAggregate 6 = .ok (.ifCond .lt 16, 3) := by decide +kernel
theorem dX1_openAggregate_9 : decode cX1_openAggregate 9 = .ok (.iload 4, 2) := by decide +kernel
theorem dX1_openAggregate_11 : decode cX1_openAggregate 11 = .ok (.iload_n 3, 1) := by decide +kernel
theorem dX1_openAggregate_12 : decode cX1_openAggregate 12 = .ok (.if_icmp .ge 10, 3) := by decide +kernel
theorem dX1_openAggregate_15 : decode cX1_openAggregate 15 = .ok (.iload 4, 2) := by decide +kernel
theorem dX1_openAggregate_17 : decode cX1_openAggregate 17 = .ok (.aload_n 1, 1) := by decide +kernel
theorem dX1_openAggregate_18 : decode cX1_openAggregate 18 = .ok (.arraylength, 1) := by decide +kernel
theorem dX1_openAggregate_19 : decode cX1_openAggregate 19 = .ok (.if_icmp .lt 5, 3) := by decide +kernel
theorem dX1_openAggregate_22 : decode cX1_openAggregate 22 = .ok (.iload_n 3, 1) := by decide +kernel
theorem dX1_openAggregate_23 : decode cX1_openAggregate 23 = .ok (.ireturn, 1) := by decide +kernel
theorem dX1_openAggregate_24 : decode cX1_openAggregate 24 = .ok (.aload_n 0, 1) := by decide +kernel
theorem dX1_openAggregate_25 : decode cX1_openAggregate 25 = .ok (.aload_n 1, 1) := by decide +kernel
theorem dX1_openAggregate_26 : decode cX1_openAggregate 26 = .ok (.iload_n 2, 1) := by decide +kernel
theorem dX1_openAggregate_27 : decode cX1_openAggregate 27 = .ok (.caload, 1) := by decide +kernel
theorem dX1_openAggregate_28 : decode cX1_openAggregate 28 = .ok (.invokevirtual 65, 3) := by decide +kernel
theorem dX1_openAggregate_31 : decode cX1_openAggregate 31 = .ok (.aload_n 0, 1) := by decide +kernel
theorem dX1_openAggregate_32 : decode cX1_openAggregate 32 = .ok (.aload_n 1, 1) := by decide +kernel
theorem dX1_openAggregate_33 : decode cX1_openAggregate 33 = .ok (.iload_n 2, 1) := by decide +kernel
theorem dX1_openAggregate_34 : decode cX1_openAggregate 34 = .ok (.caload, 1) := by decide +kernel
theorem dX1_openAggregate_35 : decode cX1_openAggregate 35 = .ok (.invokevirtual 62, 3) := by decide +kernel
theorem dX1_openAggregate_38 : decode cX1_openAggregate 38 = .ok (.iconst 0, 1) := by decide +kernel
theorem dX1_openAggregate_39 : decode cX1_openAggregate 39 = .ok (.istore 5, 2) := by decide +kernel
theorem dX1_openAggregate_41 : decode cX1_openAggregate 41 = .ok (.aload_n 1, 1) := by decide +kernel
theorem dX1_openAggregate_42 : decode cX1_openAggregate 42 = .ok (.iload 4, 2) := by decide +kernel
theorem dX1_openAggregate_44 : decode cX1_openAggregate 44 = .ok (.caload, 1) := by decide +kernel
theorem dX1_openAggregate_45 : decode cX1_openAggregate 45 = .ok (.invokestatic 59, 3) := by decide +kernel
theorem dX1_openAggregate_48 : decode cX1_openAggregate 48 = .ok (.ifCond .eq 12, 3) := by decide +kernel
theorem dX1_openAggregate_51 : decode cX1_openAggregate 51 = .ok (.aload_n 1, 1) := by decide +kernel
theorem dX1_openAggregate_52 : decode cX1_openAggregate 52 = .ok (.iload 4, 2) := by decide +kernel
theorem dX1_openAggregate_54 : decode cX1_openAggregate 54 = .ok (.caload, 1) := by decide +kernel
theorem dX1_openAggregate_55 : decode cX1_openAggregate 55 = .ok (.istore 5, 2) := by decide +kernel
theorem dX1_openAggregate_57 : decode cX1_openAggregate 57 = .ok (.iinc 4 1, 3) := by decide +kernel
theorem dX1_openAggregate_60 : decode cX1_openAggregate 60 = .ok (.aload_n 0, 1) := by decide +kernel
theorem dX1_openAggregate_61 : decode cX1_openAggregate 61 = .ok (.iload 5, 2) := by decide +kernel
theorem dX1_openAggregate_63 : decode cX1_openAggregate 63 = .ok (.invokevirtual 62, 3) := by decide +kernel
theorem dX1_openAggregate_66 : decode cX1_openAggregate 66 = .ok (.aload_n 0, 1) := by decide +kernel
theorem dX1_openAggregate_67 : decode cX1_openAggregate 67 = .ok (.iconst 0, 1) := by decide +kernel
theorem dX1_openAggregate_68 : decode cX1_openAggregate 68 = .ok (.invokevirtual 62, 3) := by decide +kernel
theorem dX1_openAggregate_71 : decode cX1_openAggregate 71 = .ok (.iload 4, 2) := by decide +kernel
theorem dX1_openAggregate_73 : decode cX1_openAggregate 73 = .ok (.iload_n 3, 1) := by decide +kernel
theorem dX1_openAggregate_74 : decode cX1_openAggregate 74 = .ok (.if_icmp .ge 23, 3) := by decide +kernel
theorem dX1_openAggregate_77 : decode cX1_openAggregate 77 = .ok (.iload 4, 2) := by decide +kernel
theorem dX1_openAggregate_79 : decode cX1_openAggregate 79 = .ok (.aload_n 1, 1) := by decide +kernel
theorem dX1_openAggregate_80 : decode cX1_openAggregate 80 = .ok (.arraylength, 1) := by decide +kernel
theorem dX1_openAggregate_81 : decode cX1_openAggregate 81 = .ok (.if_icmp .ge 16, 3) := by decide +kernel
theorem dX1_openAggregate_84 : decode cX1_openAggregate 84 = .ok (.aload_n 1, 1) := by decide +kernel
theorem dX1_openAggregate_85 : decode cX1_openAggregate 85 = .ok (.iload 4, 2) := by decide +kernel
theorem dX1_openAggregate_87 : decode cX1_openAggregate 87 = .ok (.caload, 1) := by decide +kernel
theorem dX1_openAggregate_88 : decode cX1_openAggregate 88 = .ok (.bipush 58, 2) := by decide +kernel
theorem dX1_openAggregate_90 : decode cX1_openAggregate 90 = .ok (.if_icmp .ne 7, 3) := by decide +kernel
theorem dX1_openAggregate_93 : decode cX1_openAggregate 93 = .ok (.iconst 1, 1) := by decide +kernel
theorem dX1_openAggregate_94 : decode cX1_openAggregate 94 = .ok (.goto 4, 3) := by decide +kernel
theorem dX1_openAggregate_97 : decode cX1_openAggregate 97 = .ok (.iconst 0, 1) := by decide +kernel
theorem dX1_openAggregate_98 : decode cX1_openAggregate 98 = .ok (.istore 6, 2) := by decide +kernel
theorem dX1_openAggregate_100 : decode cX1_openAggregate 100 = .ok (.iload 6, 2) := by decide +kernel
theorem dX1_openAggregate_102 : decode cX1_openAggregate 102 = .ok (.ifCond .eq 10, 3) := by decide +kernel
theorem dX1_openAggregate_105 : decode cX1_openAggregate 105 = .ok (.iload 4, 2) := by decide +kernel
theorem dX1_openAggregate_107 : decode cX1_openAggregate 107 = .ok (.iconst 1, 1) := by decide +kernel
theorem dX1_openAggregate_108 : decode cX1_openAggregate 108 = .ok (.iadd, 1) := by decide +kernel
theorem dX1_openAggregate_109 : decode cX1_openAggregate 109 = .ok (.goto 5, 3) := by decide +kernel
theorem dX1_openAggregate_112 : decode cX1_openAggregate 112 = .ok (.iload 4, 2) := by decide +kernel
theorem dX1_openAggregate_114 : decode cX1_openAggregate 114 = .ok (.ireturn, 1) := by decide +kernel
def f_Coder_openAggregate_b60 (F : Nat) (s : St) (l3 : Int32) (l4 : Int32) (l5 : Int32) : Option (Int32 × St) :=
  (f_Coder_put F s l5).bind fun x7 => ((f_Coder_put F x7 0).bind fun x8 => (if l3 ≤ l4 then
    (if (0 : Int32) = 0 then
      (some (l4, x8))
    else
      (some ((l4 + 1), x8)))
  else
    (if 40 ≤ l4 then
      (if (0 : Int32) = 0 then
        (some (l4, x8))
      else
        (some ((l4 + 1), x8)))
    else
      ((ix 40 l4).bind fun j9 => (if (gA x8 1 j9) = 58 then
        (if (1 : Int32) = 0 then
          (some (l4, x8))
        else
          (some ((l4 + 1), x8)))
      else
        (if (0 : Int32) = 0 then
          (some (l4, x8))
        else
          (some ((l4 + 1), x8))))))))
def f_Coder_openAggregate (F : Nat) (s : St) (p2 : Int32) (p3 : Int32) : Option (Int32 × St) :=
  if p2 < 0 then
    (some (p3, s))
  else
    (if p3 ≤ (p2 + 2) then
      (some (p3, s))
    else
      (if (p2 + 2) < 40 then
        ((ix 40 p2).bind fun j1 => ((f_Coder_push F s (gA s 1 j1)).bind fun x2 => ((ix 40 p2).bind fun j3 => ((f_Coder_put F x2 (gA x2 1 j3)).bind fun x4 => ((ix 40 (p2 + 2)).bind fun j5 => ((f_P_isField F x4 (gA x4 1 j5)).bind fun x6 => (if x6.1 = 0 then
          (f_Coder_openAggregate_b60 F x6.2 p3 (p2 + 2) 0)
        else
          ((ix 40 (p2 + 2)).bind fun j10 => (f_Coder_openAggregate_b60 F x6.2 p3 ((p2 + 2) + 1) (gA x6.2 1 j10))))))))))
      else
        (some (p3, s))))
set_option maxHeartbeats 1000000 in
theorem c_f_Coder_openAggregate_b60 {F : Nat} {Γ : Ga} {D : DD} {B : Nat} {r : Int32} {s' : St} (X : Cx Γ RX1 cX1_openAggregate 7 D B { frames := 2, cells := 0, slots := 0, locals := 43 }) (hr : (Gme Γ).sig.returnType = (some .int)) {s : St} {l3 : Int32} {l4 : Int32} {l5 : Int32} (hf : f_Coder_openAggregate_b60 F s l3 l4 l5 = some (r, s')) : V Γ D B true 7 (QM Γ D B true s' (some (.int r)) 0 0) 0 0 s 60 [(0, .ref (B + 26)), (1, .ref (B + 1)), (3, .int l3), (4, .int l4), (5, .int l5)] [] := by
  unfold f_Coder_openAggregate_b60 at hf
  refine r_aload_n (x := some 26) (pc := 60) X dX1_openAggregate_60 0 rfl ?_
  refine r_iload (pc := 61) X dX1_openAggregate_61 4 rfl ?_
  refine bnd hf (fun x7 h7 hf => ?_)
  refine r_callVv (As := [.int l5]) (st := []) (pc := 63) X (c_f_Coder_put h7) rfl w_908 w_910 w_24 w_42 w_911 hdV_X1_put (Rc.s rfl ce_26) (by decide) (by decide) (by decide) (Nat.le_of_ble_eq_true rfl) dX1_openAggregate_63 rfl ?_
  refine r_aload_n (x := some 26) (pc := 66) X dX1_openAggregate_66 0 rfl ?_
  refine r_iconst (v := 0) (pc := 67) X dX1_openAggregate_67 (by decide) ?_
  refine bnd hf (fun x8 h8 hf => ?_)
  refine r_callVv (As := [.int 0]) (st := []) (pc := 68) X (c_f_Coder_put h8) rfl w_908 w_910 w_24 w_42 w_911 hdV_X1_put (Rc.s rfl ce_26) (by decide) (by decide) (by decide) (Nat.le_of_ble_eq_true rfl) dX1_openAggregate_68 rfl ?_
  refine r_iload (pc := 71) X dX1_openAggregate_71 3 rfl ?_
  refine r_iload_n (pc := 73) X dX1_openAggregate_73 2 rfl ?_
  refine b_icmp_ge (tgt := 97) (pc := 74) X dX1_openAggregate_74 (by decide) hf (fun hf => ?_) (fun hf => ?_)
  · refine r_iconst (v := 0) (pc := 97) X dX1_openAggregate_97 (by decide) ?_
    refine r_istore (pc := 98) (lv' := [(4, .int l4), (6, .int 0)]) X dX1_openAggregate_98 (by decide) [4, 0] rfl ?_
    refine r_iload (pc := 100) X dX1_openAggregate_100 1 rfl ?_
    refine b_if_eq (tgt := 112) (pc := 102) X dX1_openAggregate_102 (by decide) hf (fun hf => ?_) (fun hf => ?_)
    · refine r_iload (pc := 112) X dX1_openAggregate_112 0 rfl ?_
      exact e_iret (pc := 114) X hr hf (Nat.le_refl _) (Nat.le_refl _) dX1_openAggregate_114
    · refine r_iload (pc := 105) X dX1_openAggregate_105 0 rfl ?_
      refine r_iconst (v := 1) (pc := 107) X dX1_openAggregate_107 (by decide) ?_
      refine r_iadd (pc := 108) X dX1_openAggregate_108 ?_
      refine r_goto (tgt := 114) (pc := 109) X dX1_openAggregate_109 (by decide) ?_
      exact e_iret (pc := 114) X hr hf (Nat.le_refl _) (Nat.le_refl _) dX1_openAggregate_114
  · refine r_iload (pc := 77) X dX1_openAggregate_77 3 rfl ?_
    refine r_aload_n (x := some 1) (pc := 79) X dX1_openAggregate_79 1 rfl ?_
    refine r_alen (t0 := 0) (v := 40) (pc := 80) X ce_1 rfl (by decide) dX1_openAggregate_80 ?_
    refine b_icmp_ge (tgt := 97) (pc := 81) X dX1_openAggregate_81 (by decide) hf (fun hf => ?_) (fun hf => ?_)
    · refine r_iconst (v := 0) (pc := 97) X dX1_openAggregate_97 (by decide) ?_
      refine r_istore (pc := 98) (lv' := [(4, .int l4), (6, .int 0)]) X dX1_openAggregate_98 (by decide) [4, 0] rfl ?_
      refine r_iload (pc := 100) X dX1_openAggregate_100 1 rfl ?_
      refine b_if_eq (tgt := 112) (pc := 102) X dX1_openAggregate_102 (by decide) hf (fun hf => ?_) (fun hf => ?_)
      · refine r_iload (pc := 112) X dX1_openAggregate_112 0 rfl ?_
        exact e_iret (pc := 114) X hr hf (Nat.le_refl _) (Nat.le_refl _) dX1_openAggregate_114
      · refine r_iload (pc := 105) X dX1_openAggregate_105 0 rfl ?_
        refine r_iconst (v := 1) (pc := 107) X dX1_openAggregate_107 (by decide) ?_
        refine r_iadd (pc := 108) X dX1_openAggregate_108 ?_
        refine r_goto (tgt := 114) (pc := 109) X dX1_openAggregate_109 (by decide) ?_
        exact e_iret (pc := 114) X hr hf (Nat.le_refl _) (Nat.le_refl _) dX1_openAggregate_114
    · refine r_aload_n (x := some 1) (pc := 84) X dX1_openAggregate_84 1 rfl ?_
      refine r_iload (pc := 85) X dX1_openAggregate_85 3 rfl ?_
      refine b_cald (pc := 87) X ce_1 dX1_openAggregate_87 hf (fun j9 hf => ?_)
      refine r_bipush (v := 58) (pc := 88) X dX1_openAggregate_88 (by decide) ?_
      refine b_icmp_ne (tgt := 97) (pc := 90) X dX1_openAggregate_90 (by decide) hf (fun hf => ?_) (fun hf => ?_)
      · refine r_iconst (v := 1) (pc := 93) X dX1_openAggregate_93 (by decide) ?_
        refine r_goto (tgt := 98) (pc := 94) X dX1_openAggregate_94 (by decide) ?_
        refine r_istore (pc := 98) (lv' := [(4, .int l4), (6, .int 1)]) X dX1_openAggregate_98 (by decide) [4, 0] rfl ?_
        refine r_iload (pc := 100) X dX1_openAggregate_100 1 rfl ?_
        refine b_if_eq (tgt := 112) (pc := 102) X dX1_openAggregate_102 (by decide) hf (fun hf => ?_) (fun hf => ?_)
        · refine r_iload (pc := 112) X dX1_openAggregate_112 0 rfl ?_
          exact e_iret (pc := 114) X hr hf (Nat.le_refl _) (Nat.le_refl _) dX1_openAggregate_114
        · refine r_iload (pc := 105) X dX1_openAggregate_105 0 rfl ?_
          refine r_iconst (v := 1) (pc := 107) X dX1_openAggregate_107 (by decide) ?_
          refine r_iadd (pc := 108) X dX1_openAggregate_108 ?_
          refine r_goto (tgt := 114) (pc := 109) X dX1_openAggregate_109 (by decide) ?_
          exact e_iret (pc := 114) X hr hf (Nat.le_refl _) (Nat.le_refl _) dX1_openAggregate_114
      · refine r_iconst (v := 0) (pc := 97) X dX1_openAggregate_97 (by decide) ?_
        refine r_istore (pc := 98) (lv' := [(4, .int l4), (6, .int 0)]) X dX1_openAggregate_98 (by decide) [4, 0] rfl ?_
        refine r_iload (pc := 100) X dX1_openAggregate_100 1 rfl ?_
        refine b_if_eq (tgt := 112) (pc := 102) X dX1_openAggregate_102 (by decide) hf (fun hf => ?_) (fun hf => ?_)
        · refine r_iload (pc := 112) X dX1_openAggregate_112 0 rfl ?_
          exact e_iret (pc := 114) X hr hf (Nat.le_refl _) (Nat.le_refl _) dX1_openAggregate_114
        · refine r_iload (pc := 105) X dX1_openAggregate_105 0 rfl ?_
          refine r_iconst (v := 1) (pc := 107) X dX1_openAggregate_107 (by decide) ?_
          refine r_iadd (pc := 108) X dX1_openAggregate_108 ?_
          refine r_goto (tgt := 114) (pc := 109) X dX1_openAggregate_109 (by decide) ?_
          exact e_iret (pc := 114) X hr hf (Nat.le_refl _) (Nat.le_refl _) dX1_openAggregate_114
set_option maxHeartbeats 1000000 in
theorem c_f_Coder_openAggregate {F : Nat} {s : St} {p2 : Int32} {p3 : Int32} {r : Int32} {s' : St} (hf : f_Coder_openAggregate F s p2 p3 = some (r, s')) : CC true yX1_openAggregate (Cond.code yX1_openAggregate cX1_openAggregate 7 (some .int)) 2 43 (fun B => [.ref (B + 26), .ref (B + 1), .int p2, .int p3]) s (fun B => (some (.int r))) s' 0 0 := by
  refine CC.of (fun B => [(0, .ref (B + 26)), (1, .ref (B + 1)), (2, .int p2), (3, .int p3)]) (by decide +kernel) (fun _ => rfl) (fun _ => (by simp [lg_sl, rfB_cat, catI, catL, catR])) (fun Γ D B X hr hin => ?_)
  have X : Cx Γ RX1 cX1_openAggregate 7 D B { frames := 2, cells := 0, slots := 0, locals := 43 } := X
  unfold f_Coder_openAggregate at hf
  refine r_iload_n (pc := 0) X dX1_openAggregate_0 2 rfl ?_
  refine r_iconst (v := 2) (pc := 1) X dX1_openAggregate_1 (by decide) ?_
  refine r_iadd (pc := 2) X dX1_openAggregate_2 ?_
  refine r_istore (pc := 3) (lv' := [(0, .ref (B + 26)), (1, .ref (B + 1)), (2, .int p2), (3, .int p3), (4, .int (p2 + 2))]) X dX1_openAggregate_3 (by decide) [1, 2, 3, 4, 0] rfl ?_
  refine r_iload_n (pc := 5) X dX1_openAggregate_5 2 rfl ?_
  refine b_if_lt (tgt := 22) (pc := 6) X dX1_openAggregate_6 (by decide) hf (fun hf => ?_) (fun hf => ?_)
  · refine r_iload_n (pc := 22) X dX1_openAggregate_22 3 rfl ?_
    exact e_iret (pc := 23) X hr hf (Nat.le_refl _) (Nat.le_refl _) dX1_openAggregate_23
  · refine r_iload (pc := 9) X dX1_openAggregate_9 4 rfl ?_
    refine r_iload_n (pc := 11) X dX1_openAggregate_11 3 rfl ?_
    refine b_icmp_ge (tgt := 22) (pc := 12) X dX1_openAggregate_12 (by decide) hf (fun hf => ?_) (fun hf => ?_)
    · refine r_iload_n (pc := 22) X dX1_openAggregate_22 3 rfl ?_
      exact e_iret (pc := 23) X hr hf (Nat.le_refl _) (Nat.le_refl _) dX1_openAggregate_23
    · refine r_iload (pc := 15) X dX1_openAggregate_15 4 rfl ?_
      refine r_aload_n (x := some 1) (pc := 17) X dX1_openAggregate_17 1 rfl ?_
      refine r_alen (t0 := 0) (v := 40) (pc := 18) X ce_1 rfl (by decide) dX1_openAggregate_18 ?_
      refine b_icmp_lt (tgt := 24) (pc := 19) X dX1_openAggregate_19 (by decide) hf (fun hf => ?_) (fun hf => ?_)
      · refine r_aload_n (x := some 26) (pc := 24) X dX1_openAggregate_24 0 rfl ?_
        refine r_aload_n (x := some 1) (pc := 25) X dX1_openAggregate_25 1 rfl ?_
        refine r_iload_n (pc := 26) X dX1_openAggregate_26 2 rfl ?_
        refine b_cald (pc := 27) X ce_1 dX1_openAggregate_27 hf (fun j1 hf => ?_)
        refine bnd hf (fun x2 h2 hf => ?_)
        refine r_callVv (As := [.int (gA s 1 j1)]) (st := []) (pc := 28) X (c_f_Coder_push h2) rfl w_918 w_920 w_26 w_42 w_921 hdV_X1_push (Rc.s rfl ce_26) (by decide) (by decide) (by decide) (Nat.le_of_ble_eq_true rfl) dX1_openAggregate_28 rfl ?_
        refine r_aload_n (x := some 26) (pc := 31) X dX1_openAggregate_31 0 rfl ?_
        refine r_aload_n (x := some 1) (pc := 32) X dX1_openAggregate_32 1 rfl ?_
        refine r_iload_n (pc := 33) X dX1_openAggregate_33 2 rfl ?_
        refine b_cald (pc := 34) X ce_1 dX1_openAggregate_34 hf (fun j3 hf => ?_)
        refine bnd hf (fun x4 h4 hf => ?_)
        refine r_callVv (As := [.int (gA x2 1 j3)]) (st := []) (pc := 35) X (c_f_Coder_put h4) rfl w_908 w_910 w_24 w_42 w_911 hdV_X1_put (Rc.s rfl ce_26) (by decide) (by decide) (by decide) (Nat.le_of_ble_eq_true rfl) dX1_openAggregate_35 rfl ?_
        refine r_iconst (v := 0) (pc := 38) X dX1_openAggregate_38 (by decide) ?_
        refine r_istore (pc := 39) (lv' := [(0, .ref (B + 26)), (1, .ref (B + 1)), (3, .int p3), (4, .int (p2 + 2)), (5, .int 0)]) X dX1_openAggregate_39 (by decide) [1, 2, 4, 5, 0] rfl ?_
        refine r_aload_n (x := some 1) (pc := 41) X dX1_openAggregate_41 1 rfl ?_
        refine r_iload (pc := 42) X dX1_openAggregate_42 3 rfl ?_
        refine b_cald (pc := 44) X ce_1 dX1_openAggregate_44 hf (fun j5 hf => ?_)
        refine bnd hf (fun x6 h6 hf => ?_)
        refine r_callSNi (As := [.int (gA x4 1 j5)]) (st := []) (pc := 45) X (c_f_P_isField h6) rfl wn_922 w_553 w_36 w_554 hdS_X10_isField (by decide) (by decide) (by decide) (Nat.le_of_ble_eq_true rfl) dX1_openAggregate_45 rfl ?_
        refine b_if_eq (tgt := 60) (pc := 48) X dX1_openAggregate_48 (by decide) hf (fun hf => ?_) (fun hf => ?_)
        · exact c_f_Coder_openAggregate_b60 X hr hf
        · refine r_aload_n (x := some 1) (pc := 51) X dX1_openAggregate_51 1 rfl ?_
          refine r_iload (pc := 52) X dX1_openAggregate_52 3 rfl ?_
          refine b_cald (pc := 54) X ce_1 dX1_openAggregate_54 hf (fun j10 hf => ?_)
          refine r_istore (pc := 55) (lv' := [(0, .ref (B + 26)), (1, .ref (B + 1)), (3, .int p3), (4, .int (p2 + 2)), (5, .int (gA x6.2 1 j10))]) X dX1_openAggregate_55 (by decide) [1, 2, 3, 4, 0] rfl ?_
          refine r_iinc (v := (p2 + 2) + 1) (lv' := [(0, .ref (B + 26)), (1, .ref (B + 1)), (3, .int p3), (4, .int ((p2 + 2) + 1)), (5, .int (gA x6.2 1 j10))]) (pc := 57) X dX1_openAggregate_57 3 rfl rfl (by decide) [1, 2, 3, 0, 4] rfl ?_
          exact c_f_Coder_openAggregate_b60 X hr hf
      · refine r_iload_n (pc := 22) X dX1_openAggregate_22 3 rfl ?_
        exact e_iret (pc := 23) X hr hf (Nat.le_refl _) (Nat.le_refl _) dX1_openAggregate_23
/-! f_Coder_turnNumber -/
theorem dX1_turnNumber_0 : decode cX1_turnNumber 0 = .ok (.iconst 0, 1) := by decide +kernel
theorem dX1_turnNumber_1 : decode cX1_turnNumber 1 = .ok (.istore 4, 2) := by decide +kernel
theorem dX1_turnNumber_3 : decode cX1_turnNumber 3 = .ok (.iload_n 2, 1) := by decide +kernel
theorem dX1_turnNumber_4 : decode cX1_turnNumber 4 = .ok (.istore 5, 2) := by decide +kernel
theorem dX1_turnNumber_6 : decode cX1_turnNumber 6 = .ok (.iload 5, 2) := by decide +kernel
theorem dX1_turnNumber_8 : decode cX1_turnNumber 8 = .ok (.ifCond .lt 47, 3) := by decide +kernel
theorem dX1_turnNumber_11 : decode cX1_turnNumber 11 = .ok (.iload 5, 2) := by decide +kernel
theorem dX1_turnNumber_13 : decode cX1_turnNumber 13 = .ok (.iload_n 3, 1) := by decide +kernel
theorem dX1_turnNumber_14 : decode cX1_turnNumber 14 = .ok (.if_icmp .ge 41, 3) := by decide +kernel
theorem dX1_turnNumber_17 : decode cX1_turnNumber 17 = .ok (.iload 5, 2) := by decide +kernel
theorem dX1_turnNumber_19 : decode cX1_turnNumber 19 = .ok (.aload_n 1, 1) := by decide +kernel
theorem dX1_turnNumber_20 : decode cX1_turnNumber 20 = .ok (.arraylength, 1) := by decide +kernel
theorem dX1_turnNumber_21 : decode cX1_turnNumber 21 = .ok (.if_icmp .ge 34, 3) := by decide +kernel
theorem dX1_turnNumber_24 : decode cX1_turnNumber 24 = .ok (.aload_n 1, 1) := by decide +kernel
theorem dX1_turnNumber_25 : decode cX1_turnNumber 25 = .ok (.iload 5, 2) := by decide +kernel
theorem dX1_turnNumber_27 : decode cX1_turnNumber 27 = .ok (.caload, 1) := by decide +kernel
theorem dX1_turnNumber_28 : decode cX1_turnNumber 28 = .ok (.invokestatic 46, 3) := by decide +kernel
theorem dX1_turnNumber_31 : decode cX1_turnNumber 31 = .ok (.ifCond .eq 24, 3) := by decide +kernel
theorem dX1_turnNumber_34 : decode cX1_turnNumber 34 = .ok (.bipush 10, 2) := by decide +kernel
theorem dX1_turnNumber_36 : decode cX1_turnNumber 36 = .ok (.iload 4, 2) := by decide +kernel
theorem dX1_turnNumber_38 : decode cX1_turnNumber 38 = .ok (.imul, 1) := by decide +kernel
theorem dX1_turnNumber_39 : decode cX1_turnNumber 39 = .ok (.aload_n 1, 1) := by decide +kernel
theorem dX1_turnNumber_40 : decode cX1_turnNumber 40 = .ok (.iload 5, 2) := by decide +kernel
theorem dX1_turnNumber_42 : decode cX1_turnNumber 42 = .ok (.caload, 1) := by decide +kernel
theorem dX1_turnNumber_43 : decode cX1_turnNumber 43 = .ok (.bipush 48, 2) := by decide +kernel
theorem dX1_turnNumber_45 : decode cX1_turnNumber 45 = .ok (.isub, 1) := by decide +kernel
theorem dX1_turnNumber_46 : decode cX1_turnNumber 46 = .ok (.iadd, 1) := by decide +kernel
theorem dX1_turnNumber_47 : decode cX1_turnNumber 47 = .ok (.istore 4, 2) := by decide +kernel
theorem dX1_turnNumber_49 : decode cX1_turnNumber 49 = .ok (.iinc 5 1, 3) := by decide +kernel
theorem dX1_turnNumber_52 : decode cX1_turnNumber 52 = .ok (.goto (-46), 3) := by decide +kernel
theorem dX1_turnNumber_55 : decode cX1_turnNumber 55 = .ok (.aload_n 0, 1) := by decide +kernel
theorem dX1_turnNumber_56 : decode cX1_turnNumber 56 = .ok (.bipush 35, 2) := by decide +kernel
theorem dX1_turnNumber_58 : decode cX1_turnNumber 58 = .ok (.invokevirtual 62, 3) := by decide +kernel
theorem dX1_turnNumber_61 : decode cX1_turnNumber 61 = .ok (.aload_n 0, 1) := by decide +kernel
theorem dX1_turnNumber_62 : decode cX1_turnNumber 62 = .ok (.iload 4, 2) := by decide +kernel
theorem dX1_turnNumber_64 : decode cX1_turnNumber 64 = .ok (.invokevirtual 62, 3) := by decide +kernel
theorem dX1_turnNumber_67 : decode cX1_turnNumber 67 = .ok (.aload_n 0, 1) := by decide +kernel
theorem dX1_turnNumber_68 : decode cX1_turnNumber 68 = .ok (.iconst 1, 1) := by decide +kernel
theorem dX1_turnNumber_69 : decode cX1_turnNumber 69 = .ok (.putfield 28, 3) := by decide +kernel
theorem dX1_turnNumber_72 : decode cX1_turnNumber 72 = .ok (.iload 5, 2) := by decide +kernel
theorem dX1_turnNumber_74 : decode cX1_turnNumber 74 = .ok (.ireturn, 1) := by decide +kernel
def f_Coder_turnNumber_b6 (F : Nat) : Nat → St → Int32 → Int32 → Int32 → Option (Int32 × St)
  | 0, _, _, _, _ => none
  | n + 1, s, l3, l4, l5 =>
    if l5 < 0 then
      ((f_Coder_put F s 35).bind fun x1 => ((f_Coder_put F x1 l4).bind fun x2 => (lt (sI x2 1669 1) fun s3 => (some (l5, s3)))))
    else
      (if l3 ≤ l5 then
        ((f_Coder_put F s 35).bind fun x4 => ((f_Coder_put F x4 l4).bind fun x5 => (lt (sI x5 1669 1) fun s6 => (some (l5, s6)))))
      else
        (if 40 ≤ l5 then
          ((f_Coder_put F s 35).bind fun x7 => ((f_Coder_put F x7 l4).bind fun x8 => (lt (sI x8 1669 1) fun s9 => (some (l5, s9)))))
        else
          ((ix 40 l5).bind fun j10 => ((f_P_isDigit F s (gA s 1 j10)).bind fun x11 => (if x11.1 = 0 then
            ((f_Coder_put F x11.2 35).bind fun x12 => ((f_Coder_put F x12 l4).bind fun x13 => (lt (sI x13 1669 1) fun s14 => (some (l5, s14)))))
          else
            ((ix 40 l5).bind fun j15 => (f_Coder_turnNumber_b6 F n x11.2 l3 (((10 : Int32) * l4) + ((gA x11.2 1 j15) - 48)) (l5 + 1))))))))
def f_Coder_turnNumber (F : Nat) (s : St) (p2 : Int32) (p3 : Int32) : Option (Int32 × St) :=
  f_Coder_turnNumber_b6 F F s p3 0 p2
set_option maxHeartbeats 1000000 in
theorem c_f_Coder_turnNumber_b6 {F : Nat} {Γ : Ga} {D : DD} {B : Nat} {r : Int32} {s' : St} (X : Cx Γ RX1 cX1_turnNumber 6 D B { frames := 2, cells := 0, slots := 0, locals := 43 }) (hr : (Gme Γ).sig.returnType = (some .int)) : ∀ (n : Nat) {s : St} {l3 : Int32} {l4 : Int32} {l5 : Int32}, f_Coder_turnNumber_b6 F n s l3 l4 l5 = some (r, s') → V Γ D B true 6 (QM Γ D B true s' (some (.int r)) 0 0) 0 0 s 6 [(0, .ref (B + 26)), (1, .ref (B + 1)), (3, .int l3), (4, .int l4), (5, .int l5)] [] := by
  intro n
  induction n with
  | zero => intro s l3 l4 l5 hf; rw [f_Coder_turnNumber_b6] at hf; cases hf
  | succ n ih =>
    intro s l3 l4 l5 hf
    rw [f_Coder_turnNumber_b6] at hf
    refine r_iload (pc := 6) X dX1_turnNumber_6 4 rfl ?_
    refine b_if_lt (tgt := 55) (pc := 8) X dX1_turnNumber_8 (by decide) hf (fun hf => ?_) (fun hf => ?_)
    · refine r_aload_n (x := some 26) (pc := 55) X dX1_turnNumber_55 0 rfl ?_
      refine r_bipush (v := 35) (pc := 56) X dX1_turnNumber_56 (by decide) ?_
      refine bnd hf (fun x1 h1 hf => ?_)
      refine r_callVv (As := [.int 35]) (st := []) (pc := 58) X (c_f_Coder_put h1) rfl w_908 w_910 w_24 w_42 w_911 hdV_X1_put (Rc.s rfl ce_26) (by decide) (by decide) (by decide) (Nat.le_of_ble_eq_true rfl) dX1_turnNumber_58 rfl ?_
      refine r_aload_n (x := some 26) (pc := 61) X dX1_turnNumber_61 0 rfl ?_
      refine r_iload (pc := 62) X dX1_turnNumber_62 3 rfl ?_
      refine bnd hf (fun x2 h2 hf => ?_)
      refine r_callVv (As := [.int l4]) (st := []) (pc := 64) X (c_f_Coder_put h2) rfl w_908 w_910 w_24 w_42 w_911 hdV_X1_put (Rc.s rfl ce_26) (by decide) (by decide) (by decide) (Nat.le_of_ble_eq_true rfl) dX1_turnNumber_64 rfl ?_
      refine r_aload_n (x := some 26) (pc := 67) X dX1_turnNumber_67 0 rfl ?_
      refine r_iconst (v := 1) (pc := 68) X dX1_turnNumber_68 (by decide) ?_
      refine b_put (j := 5) (pc := 69) X ce_26 rfl inT1 tyX1 tyX1_ok nmX1 (by decide) w_209 rfl (tyX1_ok 5 (by decide)) rfl rfl (Nat.le_of_ble_eq_true rfl) (cp_1669 _) rfl rfl dX1_turnNumber_69 hf (fun s3 hf => ?_)
      refine r_iload (pc := 72) X dX1_turnNumber_72 4 rfl ?_
      exact e_iret (pc := 74) X hr hf (Nat.le_refl _) (Nat.le_refl _) dX1_turnNumber_74
    · refine r_iload (pc := 11) X dX1_turnNumber_11 4 rfl ?_
      refine r_iload_n (pc := 13) X dX1_turnNumber_13 2 rfl ?_
      refine b_icmp_ge (tgt := 55) (pc := 14) X dX1_turnNumber_14 (by decide) hf (fun hf => ?_) (fun hf => ?_)
      · refine r_aload_n (x := some 26) (pc := 55) X dX1_turnNumber_55 0 rfl ?_
        refine r_bipush (v := 35) (pc := 56) X dX1_turnNumber_56 (by decide) ?_
        refine bnd hf (fun x4 h4 hf => ?_)
        refine r_callVv (As := [.int 35]) (st := []) (pc := 58) X (c_f_Coder_put h4) rfl w_908 w_910 w_24 w_42 w_911 hdV_X1_put (Rc.s rfl ce_26) (by decide) (by decide) (by decide) (Nat.le_of_ble_eq_true rfl) dX1_turnNumber_58 rfl ?_
        refine r_aload_n (x := some 26) (pc := 61) X dX1_turnNumber_61 0 rfl ?_
        refine r_iload (pc := 62) X dX1_turnNumber_62 3 rfl ?_
        refine bnd hf (fun x5 h5 hf => ?_)
        refine r_callVv (As := [.int l4]) (st := []) (pc := 64) X (c_f_Coder_put h5) rfl w_908 w_910 w_24 w_42 w_911 hdV_X1_put (Rc.s rfl ce_26) (by decide) (by decide) (by decide) (Nat.le_of_ble_eq_true rfl) dX1_turnNumber_64 rfl ?_
        refine r_aload_n (x := some 26) (pc := 67) X dX1_turnNumber_67 0 rfl ?_
        refine r_iconst (v := 1) (pc := 68) X dX1_turnNumber_68 (by decide) ?_
        refine b_put (j := 5) (pc := 69) X ce_26 rfl inT1 tyX1 tyX1_ok nmX1 (by decide) w_209 rfl (tyX1_ok 5 (by decide)) rfl rfl (Nat.le_of_ble_eq_true rfl) (cp_1669 _) rfl rfl dX1_turnNumber_69 hf (fun s6 hf => ?_)
        refine r_iload (pc := 72) X dX1_turnNumber_72 4 rfl ?_
        exact e_iret (pc := 74) X hr hf (Nat.le_refl _) (Nat.le_refl _) dX1_turnNumber_74
      · refine r_iload (pc := 17) X dX1_turnNumber_17 4 rfl ?_
        refine r_aload_n (x := some 1) (pc := 19) X dX1_turnNumber_19 1 rfl ?_
        refine r_alen (t0 := 0) (v := 40) (pc := 20) X ce_1 rfl (by decide) dX1_turnNumber_20 ?_
        refine b_icmp_ge (tgt := 55) (pc := 21) X dX1_turnNumber_21 (by decide) hf (fun hf => ?_) (fun hf => ?_)
        · refine r_aload_n (x := some 26) (pc := 55) X dX1_turnNumber_55 0 rfl ?_
          refine r_bipush (v := 35) (pc := 56) X dX1_turnNumber_56 (by decide) ?_
          refine bnd hf (fun x7 h7 hf => ?_)
          refine r_callVv (As := [.int 35]) (st := []) (pc := 58) X (c_f_Coder_put h7) rfl w_908 w_910 w_24 w_42 w_911 hdV_X1_put (Rc.s rfl ce_26) (by decide) (by decide) (by decide) (Nat.le_of_ble_eq_true rfl) dX1_turnNumber_58 rfl ?_
          refine r_aload_n (x := some 26) (pc := 61) X dX1_turnNumber_61 0 rfl ?_
          refine r_iload (pc := 62) X dX1_turnNumber_62 3 rfl ?_
          refine bnd hf (fun x8 h8 hf => ?_)
          refine r_callVv (As := [.int l4]) (st := []) (pc := 64) X (c_f_Coder_put h8) rfl w_908 w_910 w_24 w_42 w_911 hdV_X1_put (Rc.s rfl ce_26) (by decide) (by decide) (by decide) (Nat.le_of_ble_eq_true rfl) dX1_turnNumber_64 rfl ?_
          refine r_aload_n (x := some 26) (pc := 67) X dX1_turnNumber_67 0 rfl ?_
          refine r_iconst (v := 1) (pc := 68) X dX1_turnNumber_68 (by decide) ?_
          refine b_put (j := 5) (pc := 69) X ce_26 rfl inT1 tyX1 tyX1_ok nmX1 (by decide) w_209 rfl (tyX1_ok 5 (by decide)) rfl rfl (Nat.le_of_ble_eq_true rfl) (cp_1669 _) rfl rfl dX1_turnNumber_69 hf (fun s9 hf => ?_)
          refine r_iload (pc := 72) X dX1_turnNumber_72 4 rfl ?_
          exact e_iret (pc := 74) X hr hf (Nat.le_refl _) (Nat.le_refl _) dX1_turnNumber_74
        · refine r_aload_n (x := some 1) (pc := 24) X dX1_turnNumber_24 1 rfl ?_
          refine r_iload (pc := 25) X dX1_turnNumber_25 4 rfl ?_
          refine b_cald (pc := 27) X ce_1 dX1_turnNumber_27 hf (fun j10 hf => ?_)
          refine bnd hf (fun x11 h11 hf => ?_)
          refine r_callSNi (As := [.int (gA s 1 j10)]) (st := []) (pc := 28) X (c_f_P_isDigit h11) rfl wn_903 w_693 w_36 w_694 hdS_X10_isDigit (by decide) (by decide) (by decide) (Nat.le_of_ble_eq_true rfl) dX1_turnNumber_28 rfl ?_
          refine b_if_eq (tgt := 55) (pc := 31) X dX1_turnNumber_31 (by decide) hf (fun hf => ?_) (fun hf => ?_)
          · refine r_aload_n (x := some 26) (pc := 55) X dX1_turnNumber_55 0 rfl ?_
            refine r_bipush (v := 35) (pc := 56) X dX1_turnNumber_56 (by decide) ?_
            refine bnd hf (fun x12 h12 hf => ?_)
            refine r_callVv (As := [.int 35]) (st := []) (pc := 58) X (c_f_Coder_put h12) rfl w_908 w_910 w_24 w_42 w_911 hdV_X1_put (Rc.s rfl ce_26) (by decide) (by decide) (by decide) (Nat.le_of_ble_eq_true rfl) dX1_turnNumber_58 rfl ?_
            refine r_aload_n (x := some 26) (pc := 61) X dX1_turnNumber_61 0 rfl ?_
            refine r_iload (pc := 62) X dX1_turnNumber_62 3 rfl ?_
            refine bnd hf (fun x13 h13 hf => ?_)
            refine r_callVv (As := [.int l4]) (st := []) (pc := 64) X (c_f_Coder_put h13) rfl w_908 w_910 w_24 w_42 w_911 hdV_X1_put (Rc.s rfl ce_26) (by decide) (by decide) (by decide) (Nat.le_of_ble_eq_true rfl) dX1_turnNumber_64 rfl ?_
            refine r_aload_n (x := some 26) (pc := 67) X dX1_turnNumber_67 0 rfl ?_
            refine r_iconst (v := 1) (pc := 68) X dX1_turnNumber_68 (by decide) ?_
            refine b_put (j := 5) (pc := 69) X ce_26 rfl inT1 tyX1 tyX1_ok nmX1 (by decide) w_209 rfl (tyX1_ok 5 (by decide)) rfl rfl (Nat.le_of_ble_eq_true rfl) (cp_1669 _) rfl rfl dX1_turnNumber_69 hf (fun s14 hf => ?_)
            refine r_iload (pc := 72) X dX1_turnNumber_72 4 rfl ?_
            exact e_iret (pc := 74) X hr hf (Nat.le_refl _) (Nat.le_refl _) dX1_turnNumber_74
          · refine r_bipush (v := 10) (pc := 34) X dX1_turnNumber_34 (by decide) ?_
            refine r_iload (pc := 36) X dX1_turnNumber_36 3 rfl ?_
            refine r_imul (pc := 38) X dX1_turnNumber_38 ?_
            refine r_aload_n (x := some 1) (pc := 39) X dX1_turnNumber_39 1 rfl ?_
            refine r_iload (pc := 40) X dX1_turnNumber_40 4 rfl ?_
            refine b_cald (pc := 42) X ce_1 dX1_turnNumber_42 hf (fun j15 hf => ?_)
            refine r_bipush (v := 48) (pc := 43) X dX1_turnNumber_43 (by decide) ?_
            refine r_isub (pc := 45) X dX1_turnNumber_45 ?_
            refine r_iadd (pc := 46) X dX1_turnNumber_46 ?_
            refine r_istore (pc := 47) (lv' := [(0, .ref (B + 26)), (1, .ref (B + 1)), (3, .int l3), (4, .int (((10 : Int32) * l4) + ((gA x11.2 1 j15) - 48))), (5, .int l5)]) X dX1_turnNumber_47 (by decide) [1, 2, 3, 0, 4] rfl ?_
            refine r_iinc (v := l5 + 1) (lv' := [(0, .ref (B + 26)), (1, .ref (B + 1)), (3, .int l3), (4, .int (((10 : Int32) * l4) + ((gA x11.2 1 j15) - 48))), (5, .int (l5 + 1))]) (pc := 49) X dX1_turnNumber_49 4 rfl rfl (by decide) [1, 2, 3, 4, 0] rfl ?_
            refine r_goto (tgt := 6) (pc := 52) X dX1_turnNumber_52 (by decide) ?_
            exact ih hf
set_option maxHeartbeats 1000000 in
theorem c_f_Coder_turnNumber {F : Nat} {s : St} {p2 : Int32} {p3 : Int32} {r : Int32} {s' : St} (hf : f_Coder_turnNumber F s p2 p3 = some (r, s')) : CC true yX1_turnNumber (Cond.code yX1_turnNumber cX1_turnNumber 6 (some .int)) 2 43 (fun B => [.ref (B + 26), .ref (B + 1), .int p2, .int p3]) s (fun B => (some (.int r))) s' 0 0 := by
  refine CC.of (fun B => [(0, .ref (B + 26)), (1, .ref (B + 1)), (2, .int p2), (3, .int p3)]) (by decide +kernel) (fun _ => rfl) (fun _ => (by simp [lg_sl, rfB_cat, catI, catL, catR])) (fun Γ D B X hr hin => ?_)
  have X : Cx Γ RX1 cX1_turnNumber 6 D B { frames := 2, cells := 0, slots := 0, locals := 43 } := X
  unfold f_Coder_turnNumber at hf
  refine r_iconst (v := 0) (pc := 0) X dX1_turnNumber_0 (by decide) ?_
  refine r_istore (pc := 1) (lv' := [(0, .ref (B + 26)), (1, .ref (B + 1)), (2, .int p2), (3, .int p3), (4, .int 0)]) X dX1_turnNumber_1 (by decide) [1, 2, 3, 4, 0] rfl ?_
  refine r_iload_n (pc := 3) X dX1_turnNumber_3 2 rfl ?_
  refine r_istore (pc := 4) (lv' := [(0, .ref (B + 26)), (1, .ref (B + 1)), (3, .int p3), (4, .int 0), (5, .int p2)]) X dX1_turnNumber_4 (by decide) [1, 2, 4, 5, 0] rfl ?_
  exact c_f_Coder_turnNumber_b6 X hr _ hf
/-! f_Coder_turnPart -/
theorem dX1_turnPart_0 : decode cX1_turnPart 0 = .ok (.iload_n 2, 1) := by decide +kernel
theorem dX1_turnPart_1 : decode cX1_turnPart 1 = .ok (.ifCond .lt 14, 3) := by decide +kernel
theorem dX1_turnPart_4 : decode cX1_turnPart 4 = .ok (.iload_n 2, 1) := by decide +kernel
theorem dX1_turnPart_5 : decode cX1_turnPart 5 = .ok (.iload_n 3, 1) := by decide +kernel
theorem dX1_turnPart_6 : decode cX1_turnPart 6 = .ok (.if_icmp .ge 9, 3) := by decide +kernel
theorem dX1_turnPart_9 : decode cX1_turnPart 9 = .ok (.iload_n 2, 1) := by decide +kernel
theorem dX1_turnPart_10 : decode cX1_turnPart 10 = .ok (.aload_n 1, 1) := by decide +kernel
theorem dX1_turnPart_11 : decode cX1_turnPart 11 = .ok (.arraylength, 1) := by decide +kernel
theorem dX1_turnPart_12 : decode cX1_turnPart 12 = .ok (.if_icmp .lt 5, 3) := by decide +kernel
theorem dX1_turnPart_15 : decode cX1_turnPart 15 = .ok (.iload_n 3, 1) := by decide +kernel
theorem dX1_turnPart_16 : decode cX1_turnPart 16 = .ok (.ireturn, 1) := by decide +kernel
theorem dX1_turnPart_17 : decode cX1_turnPart 17 = .ok (.aload_n 1, 1) := by decide +kernel
theorem dX1_turnPart_18 : decode cX1_turnPart 18 = .ok (.iload_n 2, 1) := by decide +kernel
theorem dX1_turnPart_19 : decode cX1_turnPart 19 = .ok (.caload, 1) := by decide +kernel
theorem dX1_turnPart_20 : decode cX1_turnPart 20 = .ok (.istore 4, 2) := by decide +kernel
theorem dX1_turnPart_22 : decode cX1_turnPart 22 = .ok (.iload 4, 2) := by decide +kernel
theorem dX1_turnPart_24 : decode cX1_turnPart 24 = .ok (.invokestatic 46, 3) := by decide +kernel
theorem dX1_turnPart_27 : decode cX1_turnPart 27 = .ok (.ifCond .eq 11, 3) := by decide +kernel
theorem dX1_turnPart_30 : decode cX1_turnPart 30 = .ok (.aload_n 0, 1) := by decide +kernel
theorem dX1_turnPart_31 : decode cX1_turnPart 31 = .ok (.aload_n 1, 1) := by decide +kernel
theorem dX1_turnPart_32 : decode cX1_turnPart 32 = .ok (.iload_n 2, 1) := by decide +kernel
theorem dX1_turnPart_33 : decode cX1_turnPart 33 = .ok (.iload_n 3, 1) := by decide +kernel
theorem dX1_turnPart_34 : decode cX1_turnPart 34 = .ok (.invokevirtual 50, 3) := by decide +kernel
theorem dX1_turnPart_37 : decode cX1_turnPart 37 = .ok (.ireturn, 1) := by decide +kernel
theorem dX1_turnPart_38 : decode cX1_turnPart 38 = .ok (.iload 4, 2) := by decide +kernel
theorem dX1_turnPart_40 : decode cX1_turnPart 40 = .ok (.invokestatic 53, 3) := by decide +kernel
theorem dX1_turnPart_43 : decode cX1_turnPart 43 = .ok (.ifCond .eq 11, 3) := by decide +kernel
theorem dX1_turnPart_46 : decode cX1_turnPart 46 = .ok (.aload_n 0, 1) := by decide +kernel
theorem dX1_turnPart_47 : decode cX1_turnPart 47 = .ok (.aload_n 1, 1) := by decide +kernel
theorem dX1_turnPart_48 : decode cX1_turnPart 48 = .ok (.iload_n 2, 1) := by decide +kernel
theorem dX1_turnPart_49 : decode cX1_turnPart 49 = .ok (.iload_n 3, 1) := by decide +kernel
theorem dX1_turnPart_50 : decode cX1_turnPart 50 = .ok (.invokevirtual 56, 3) := by decide +kernel
theorem dX1_turnPart_53 : decode cX1_turnPart 53 = .ok (.ireturn, 1) := by decide +kernel
theorem dX1_turnPart_54 : decode cX1_turnPart 54 = .ok (.iload 4, 2) := by decide +kernel
theorem dX1_turnPart_56 : decode cX1_turnPart 56 = .ok (.invokestatic 59, 3) := by decide +kernel
theorem dX1_turnPart_59 : decode cX1_turnPart 59 = .ok (.ifCond .eq 12, 3) := by decide +kernel
theorem dX1_turnPart_62 : decode cX1_turnPart 62 = .ok (.aload_n 0, 1) := by decide +kernel
theorem dX1_turnPart_63 : decode cX1_turnPart 63 = .ok (.iload 4, 2) := by decide +kernel
theorem dX1_turnPart_65 : decode cX1_turnPart 65 = .ok (.invokevirtual 62, 3) := by decide +kernel
theorem dX1_turnPart_68 : decode cX1_turnPart 68 = .ok (.goto 39, 3) := by decide +kernel
theorem dX1_turnPart_71 : decode cX1_turnPart 71 = .ok (.iload 4, 2) := by decide +kernel
theorem dX1_turnPart_73 : decode cX1_turnPart 73 = .ok (.bipush 40, 2) := by decide +kernel
theorem dX1_turnPart_75 : decode cX1_turnPart 75 = .ok (.if_icmp .ne 12, 3) := by decide +kernel
theorem dX1_turnPart_78 : decode cX1_turnPart 78 = .ok (.aload_n 0, 1) := by decide +kernel
theorem dX1_turnPart_79 : decode cX1_turnPart 79 = .ok (.iload 4, 2) := by decide +kernel
theorem dX1_turnPart_81 : decode cX1_turnPart 81 = .ok (.invokevirtual 65, 3) := by decide +kernel
theorem dX1_turnPart_84 : decode cX1_turnPart 84 = .ok (.goto 23, 3) := by decide +kernel
theorem dX1_turnPart_87 : decode cX1_turnPart 87 = .ok (.iload 4, 2) := by decide +kernel
theorem dX1_turnPart_89 : decode cX1_turnPart 89 = .ok (.bipush 41, 2) := by decide +kernel
theorem dX1_turnPart_91 : decode cX1_turnPart 91 = .ok (.if_icmp .ne 10, 3) := by decide +kernel
theorem dX1_turnPart_94 : decode cX1_turnPart 94 = .ok (.aload_n 0, 1) := by decide +kernel
theorem dX1_turnPart_95 : decode cX1_turnPart 95 = .ok (.invokevirtual 68, 3) := by decide +kernel
theorem dX1_turnPart_98 : decode cX1_turnPart 98 = .ok (.goto 9, 3) := by decide +kernel
theorem dX1_turnPart_101 : decode cX1_turnPart 101 = .ok (.aload_n 0, 1) := by decide +kernel
theorem dX1_turnPart_102 : decode cX1_turnPart 102 = .ok (.iload 4, 2) := by decide +kernel
theorem dX1_turnPart_104 : decode cX1_turnPart 104 = .ok (.invokevirtual 71, 3) := by decide +kernel
theorem dX1_turnPart_107 : decode cX1_turnPart 107 = .ok (.iload_n 2, 1) := by decide +kernel
theorem dX1_turnPart_108 : decode cX1_turnPart 108 = .ok (.iconst 1, 1) := by decide +kernel
theorem dX1_turnPart_109 : decode cX1_turnPart 109 = .ok (.iadd, 1) := by decide +kernel
theorem dX1_turnPart_110 : decode cX1_turnPart 110 = .ok (.ireturn, 1) := by decide +kernel
def f_Coder_turnPart (F : Nat) (s : St) (p2 : Int32) (p3 : Int32) : Option (Int32 × St) :=
  if p2 < 0 then
    (some (p3, s))
  else
    (if p3 ≤ p2 then
      (some (p3, s))
    else
      (if p2 < 40 then
        ((ix 40 p2).bind fun j1 => ((f_P_isDigit F s (gA s 1 j1)).bind fun x2 => (if x2.1 = 0 then
          ((f_P_isAggregate F x2.2 (gA s 1 j1)).bind fun x3 => (if x3.1 = 0 then
            ((f_P_isField F x3.2 (gA s 1 j1)).bind fun x4 => (if x4.1 = 0 then
              (if (gA s 1 j1) = 40 then
                ((f_Coder_push F x4.2 (gA s 1 j1)).bind fun x5 => (some ((p2 + 1), x5)))
              else
                (if (gA s 1 j1) = 41 then
                  ((f_Coder_close F x4.2).bind fun x6 => (some ((p2 + 1), x6)))
                else
                  ((f_Coder_turnSign F x4.2 (gA s 1 j1)).bind fun x7 => (some ((p2 + 1), x7)))))
            else
              ((f_Coder_put F x4.2 (gA s 1 j1)).bind fun x8 => (some ((p2 + 1), x8)))))
          else
            ((f_Coder_openAggregate F x3.2 p2 p3).bind fun x9 => (some (x9.1, x9.2)))))
        else
          ((f_Coder_turnNumber F x2.2 p2 p3).bind fun x10 => (some (x10.1, x10.2))))))
      else
        (some (p3, s))))
set_option maxHeartbeats 1000000 in
theorem c_f_Coder_turnPart {F : Nat} {s : St} {p2 : Int32} {p3 : Int32} {r : Int32} {s' : St} (hf : f_Coder_turnPart F s p2 p3 = some (r, s')) : CC true yX1_turnPart (Cond.code yX1_turnPart cX1_turnPart 5 (some .int)) 4 86 (fun B => [.ref (B + 26), .ref (B + 1), .int p2, .int p3]) s (fun B => (some (.int r))) s' 0 0 := by
  refine CC.of (fun B => [(0, .ref (B + 26)), (1, .ref (B + 1)), (2, .int p2), (3, .int p3)]) (by decide +kernel) (fun _ => rfl) (fun _ => (by simp [lg_sl, rfB_cat, catI, catL, catR])) (fun Γ D B X hr hin => ?_)
  have X : Cx Γ RX1 cX1_turnPart 5 D B { frames := 4, cells := 0, slots := 0, locals := 86 } := X
  unfold f_Coder_turnPart at hf
  refine r_iload_n (pc := 0) X dX1_turnPart_0 2 rfl ?_
  refine b_if_lt (tgt := 15) (pc := 1) X dX1_turnPart_1 (by decide) hf (fun hf => ?_) (fun hf => ?_)
  · refine r_iload_n (pc := 15) X dX1_turnPart_15 3 rfl ?_
    exact e_iret (pc := 16) X hr hf (Nat.le_refl _) (Nat.le_refl _) dX1_turnPart_16
  · refine r_iload_n (pc := 4) X dX1_turnPart_4 2 rfl ?_
    refine r_iload_n (pc := 5) X dX1_turnPart_5 3 rfl ?_
    refine b_icmp_ge (tgt := 15) (pc := 6) X dX1_turnPart_6 (by decide) hf (fun hf => ?_) (fun hf => ?_)
    · refine r_iload_n (pc := 15) X dX1_turnPart_15 3 rfl ?_
      exact e_iret (pc := 16) X hr hf (Nat.le_refl _) (Nat.le_refl _) dX1_turnPart_16
    · refine r_iload_n (pc := 9) X dX1_turnPart_9 2 rfl ?_
      refine r_aload_n (x := some 1) (pc := 10) X dX1_turnPart_10 1 rfl ?_
      refine r_alen (t0 := 0) (v := 40) (pc := 11) X ce_1 rfl (by decide) dX1_turnPart_11 ?_
      refine b_icmp_lt (tgt := 17) (pc := 12) X dX1_turnPart_12 (by decide) hf (fun hf => ?_) (fun hf => ?_)
      · refine r_aload_n (x := some 1) (pc := 17) X dX1_turnPart_17 1 rfl ?_
        refine r_iload_n (pc := 18) X dX1_turnPart_18 2 rfl ?_
        refine b_cald (pc := 19) X ce_1 dX1_turnPart_19 hf (fun j1 hf => ?_)
        refine r_istore (pc := 20) (lv' := [(0, .ref (B + 26)), (1, .ref (B + 1)), (2, .int p2), (3, .int p3), (4, .int (gA s 1 j1))]) X dX1_turnPart_20 (by decide) [1, 2, 3, 4, 0] rfl ?_
        refine r_iload (pc := 22) X dX1_turnPart_22 4 rfl ?_
        refine bnd hf (fun x2 h2 hf => ?_)
        refine r_callSNi (As := [.int (gA s 1 j1)]) (st := []) (pc := 24) X (c_f_P_isDigit h2) rfl wn_903 w_693 w_36 w_694 hdS_X10_isDigit (by decide) (by decide) (by decide) (Nat.le_of_ble_eq_true rfl) dX1_turnPart_24 rfl ?_
        refine b_if_eq (tgt := 38) (pc := 27) X dX1_turnPart_27 (by decide) hf (fun hf => ?_) (fun hf => ?_)
        · refine r_iload (pc := 38) X dX1_turnPart_38 4 rfl ?_
          refine bnd hf (fun x3 h3 hf => ?_)
          refine r_callSNi (As := [.int (gA s 1 j1)]) (st := []) (pc := 40) X (c_f_P_isAggregate h3) rfl wn_913 w_560 w_36 w_561 hdS_X10_isAggregate (by decide) (by decide) (by decide) (Nat.le_of_ble_eq_true rfl) dX1_turnPart_40 rfl ?_
          refine b_if_eq (tgt := 54) (pc := 43) X dX1_turnPart_43 (by decide) hf (fun hf => ?_) (fun hf => ?_)
          · refine r_iload (pc := 54) X dX1_turnPart_54 4 rfl ?_
            refine bnd hf (fun x4 h4 hf => ?_)
            refine r_callSNi (As := [.int (gA s 1 j1)]) (st := []) (pc := 56) X (c_f_P_isField h4) rfl wn_922 w_553 w_36 w_554 hdS_X10_isField (by decide) (by decide) (by decide) (Nat.le_of_ble_eq_true rfl) dX1_turnPart_56 rfl ?_
            refine b_if_eq (tgt := 71) (pc := 59) X dX1_turnPart_59 (by decide) hf (fun hf => ?_) (fun hf => ?_)
            · refine r_iload (pc := 71) X dX1_turnPart_71 4 rfl ?_
              refine r_bipush (v := 40) (pc := 73) X dX1_turnPart_73 (by decide) ?_
              refine b_icmp_ne (tgt := 87) (pc := 75) X dX1_turnPart_75 (by decide) hf (fun hf => ?_) (fun hf => ?_)
              · refine r_aload_n (x := some 26) (pc := 78) X dX1_turnPart_78 0 rfl ?_
                refine r_iload (pc := 79) X dX1_turnPart_79 4 rfl ?_
                refine bnd hf (fun x5 h5 hf => ?_)
                refine r_callVv (As := [.int (gA s 1 j1)]) (st := []) (pc := 81) X (c_f_Coder_push h5) rfl w_918 w_920 w_26 w_42 w_921 hdV_X1_push (Rc.s rfl ce_26) (by decide) (by decide) (by decide) (Nat.le_of_ble_eq_true rfl) dX1_turnPart_81 rfl ?_
                refine r_goto (tgt := 107) (pc := 84) X dX1_turnPart_84 (by decide) ?_
                refine r_iload_n (pc := 107) X dX1_turnPart_107 2 rfl ?_
                refine r_iconst (v := 1) (pc := 108) X dX1_turnPart_108 (by decide) ?_
                refine r_iadd (pc := 109) X dX1_turnPart_109 ?_
                exact e_iret (pc := 110) X hr hf (Nat.le_refl _) (Nat.le_refl _) dX1_turnPart_110
              · refine r_iload (pc := 87) X dX1_turnPart_87 4 rfl ?_
                refine r_bipush (v := 41) (pc := 89) X dX1_turnPart_89 (by decide) ?_
                refine b_icmp_ne (tgt := 101) (pc := 91) X dX1_turnPart_91 (by decide) hf (fun hf => ?_) (fun hf => ?_)
                · refine r_aload_n (x := some 26) (pc := 94) X dX1_turnPart_94 0 rfl ?_
                  refine bnd hf (fun x6 h6 hf => ?_)
                  refine r_callVv (As := []) (st := []) (pc := 95) X (c_f_Coder_close h6) rfl w_923 w_925 w_27 w_42 w_926 hdV_X1_close (Rc.s rfl ce_26) (by decide) (by decide) (by decide) (Nat.le_of_ble_eq_true rfl) dX1_turnPart_95 rfl ?_
                  refine r_goto (tgt := 107) (pc := 98) X dX1_turnPart_98 (by decide) ?_
                  refine r_iload_n (pc := 107) X dX1_turnPart_107 2 rfl ?_
                  refine r_iconst (v := 1) (pc := 108) X dX1_turnPart_108 (by decide) ?_
                  refine r_iadd (pc := 109) X dX1_turnPart_109 ?_
                  exact e_iret (pc := 110) X hr hf (Nat.le_refl _) (Nat.le_refl _) dX1_turnPart_110
                · refine r_aload_n (x := some 26) (pc := 101) X dX1_turnPart_101 0 rfl ?_
                  refine r_iload (pc := 102) X dX1_turnPart_102 4 rfl ?_
                  refine bnd hf (fun x7 h7 hf => ?_)
                  refine r_callVv (As := [.int (gA s 1 j1)]) (st := []) (pc := 104) X (c_f_Coder_turnSign h7) rfl w_934 w_936 w_29 w_42 w_937 hdV_X1_turnSign (Rc.s rfl ce_26) (by decide) (by decide) (by decide) (Nat.le_of_ble_eq_true rfl) dX1_turnPart_104 rfl ?_
                  refine r_iload_n (pc := 107) X dX1_turnPart_107 2 rfl ?_
                  refine r_iconst (v := 1) (pc := 108) X dX1_turnPart_108 (by decide) ?_
                  refine r_iadd (pc := 109) X dX1_turnPart_109 ?_
                  exact e_iret (pc := 110) X hr hf (Nat.le_refl _) (Nat.le_refl _) dX1_turnPart_110
            · refine r_aload_n (x := some 26) (pc := 62) X dX1_turnPart_62 0 rfl ?_
              refine r_iload (pc := 63) X dX1_turnPart_63 4 rfl ?_
              refine bnd hf (fun x8 h8 hf => ?_)
              refine r_callVv (As := [.int (gA s 1 j1)]) (st := []) (pc := 65) X (c_f_Coder_put h8) rfl w_908 w_910 w_24 w_42 w_911 hdV_X1_put (Rc.s rfl ce_26) (by decide) (by decide) (by decide) (Nat.le_of_ble_eq_true rfl) dX1_turnPart_65 rfl ?_
              refine r_goto (tgt := 107) (pc := 68) X dX1_turnPart_68 (by decide) ?_
              refine r_iload_n (pc := 107) X dX1_turnPart_107 2 rfl ?_
              refine r_iconst (v := 1) (pc := 108) X dX1_turnPart_108 (by decide) ?_
              refine r_iadd (pc := 109) X dX1_turnPart_109 ?_
              exact e_iret (pc := 110) X hr hf (Nat.le_refl _) (Nat.le_refl _) dX1_turnPart_110
          · refine r_aload_n (x := some 26) (pc := 46) X dX1_turnPart_46 0 rfl ?_
            refine r_aload_n (x := some 1) (pc := 47) X dX1_turnPart_47 1 rfl ?_
            refine r_iload_n (pc := 48) X dX1_turnPart_48 2 rfl ?_
            refine r_iload_n (pc := 49) X dX1_turnPart_49 3 rfl ?_
            refine bnd hf (fun x9 h9 hf => ?_)
            refine r_callVi (As := [.ref (B + 1), .int p2, .int p3]) (st := []) (pc := 50) X (c_f_Coder_openAggregate h9) rfl w_914 w_916 w_25 w_42 w_917 hdV_X1_openAggregate (Rc.s rfl ce_26) (by decide) (by decide) (by decide) (Nat.le_of_ble_eq_true rfl) dX1_turnPart_50 rfl ?_
            exact e_iret (pc := 53) X hr hf (Nat.le_refl _) (Nat.le_refl _) dX1_turnPart_53
        · refine r_aload_n (x := some 26) (pc := 30) X dX1_turnPart_30 0 rfl ?_
          refine r_aload_n (x := some 1) (pc := 31) X dX1_turnPart_31 1 rfl ?_
          refine r_iload_n (pc := 32) X dX1_turnPart_32 2 rfl ?_
          refine r_iload_n (pc := 33) X dX1_turnPart_33 3 rfl ?_
          refine bnd hf (fun x10 h10 hf => ?_)
          refine r_callVi (As := [.ref (B + 1), .int p2, .int p3]) (st := []) (pc := 34) X (c_f_Coder_turnNumber h10) rfl w_904 w_906 w_23 w_42 w_907 hdV_X1_turnNumber (Rc.s rfl ce_26) (by decide) (by decide) (by decide) (Nat.le_of_ble_eq_true rfl) dX1_turnPart_34 rfl ?_
          exact e_iret (pc := 37) X hr hf (Nat.le_refl _) (Nat.le_refl _) dX1_turnPart_37
      · refine r_iload_n (pc := 15) X dX1_turnPart_15 3 rfl ?_
        exact e_iret (pc := 16) X hr hf (Nat.le_refl _) (Nat.le_refl _) dX1_turnPart_16
/-! f_Coder_turn -/
theorem dX1_turn_0 : decode cX1_turn 0 = .ok (.aload_n 0, 1) := by decide +kernel
theorem dX1_turn_1 : decode cX1_turn 1 = .ok (.iconst 0, 1) := by decide +kernel
theorem dX1_turn_2 : decode cX1_turn 2 = .ok (.putfield 15, 3) := by decide +kernel
theorem dX1_turn_5 : decode cX1_turn 5 = .ok (.aload_n 0, 1) := by decide +kernel
theorem dX1_turn_6 : decode cX1_turn 6 = .ok (.iconst 0, 1) := by decide +kernel
theorem dX1_turn_7 : decode cX1_turn 7 = .ok (.putfield 25, 3) := by decide +kernel
theorem dX1_turn_10 : decode cX1_turn 10 = .ok (.aload_n 0, 1) := by decide +kernel
theorem dX1_turn_11 : decode cX1_turn 11 = .ok (.iconst 0, 1) := by decide +kernel
theorem dX1_turn_12 : decode cX1_turn 12 = .ok (.putfield 28, 3) := by decide +kernel
theorem dX1_turn_15 : decode cX1_turn 15 = .ok (.iconst 0, 1) := by decide +kernel
theorem dX1_turn_16 : decode cX1_turn 16 = .ok (.istore_n 3, 1) := by decide +kernel
theorem dX1_turn_17 : decode cX1_turn 17 = .ok (.iconst 0, 1) := by decide +kernel
theorem dX1_turn_18 : decode cX1_turn 18 = .ok (.istore 4, 2) := by decide +kernel
theorem dX1_turn_20 : decode cX1_turn 20 = .ok (.iload 4, 2) := by decide +kernel
theorem dX1_turn_22 : decode cX1_turn 22 = .ok (.bipush 40, 2) := by decide +kernel
theorem dX1_turn_24 : decode cX1_turn 24 = .ok (.if_icmp .ge 33, 3) := by decide +kernel
theorem dX1_turn_27 : decode cX1_turn 27 = .ok (.iload_n 3, 1) := by decide +kernel
theorem dX1_turn_28 : decode cX1_turn 28 = .ok (.iload_n 2, 1) := by decide +kernel
theorem dX1_turn_29 : decode cX1_turn 29 = .ok (.if_icmp .ge 28, 3) := by decide +kernel
theorem dX1_turn_32 : decode cX1_turn 32 = .ok (.iload_n 3, 1) := by decide +kernel
theorem dX1_turn_33 : decode cX1_turn 33 = .ok (.aload_n 1, 1) := by decide +kernel
theorem dX1_turn_34 : decode cX1_turn 34 = .ok (.arraylength, 1) := by decide +kernel
theorem dX1_turn_35 : decode cX1_turn 35 = .ok (.if_icmp .ge 22, 3) := by decide +kernel
theorem dX1_turn_38 : decode cX1_turn 38 = .ok (.aload_n 0, 1) := by decide +kernel
theorem dX1_turn_39 : decode cX1_turn 39 = .ok (.aload_n 1, 1) := by decide +kernel
theorem dX1_turn_40 : decode cX1_turn 40 = .ok (.iload_n 3, 1) := by decide +kernel
theorem dX1_turn_41 : decode cX1_turn 41 = .ok (.iload_n 2, 1) := by decide +kernel
theorem dX1_turn_42 : decode cX1_turn 42 = .ok (.aload_n 1, 1) := by decide +kernel
theorem dX1_turn_43 : decode cX1_turn 43 = .ok (.arraylength, 1) := by decide +kernel
theorem dX1_turn_44 : decode cX1_turn 44 = .ok (.invokestatic 32, 3) := by decide +kernel
theorem dX1_turn_47 : decode cX1_turn 47 = .ok (.invokevirtual 38, 3) := by decide +kernel
theorem dX1_turn_50 : decode cX1_turn 50 = .ok (.istore_n 3, 1) := by decide +kernel
theorem dX1_turn_51 : decode cX1_turn 51 = .ok (.iinc 4 1, 3) := by decide +kernel
theorem dX1_turn_54 : decode cX1_turn 54 = .ok (.goto (-34), 3) := by decide +kernel
theorem dX1_turn_57 : decode cX1_turn 57 = .ok (.aload_n 0, 1) := by decide +kernel
theorem dX1_turn_58 : decode cX1_turn 58 = .ok (.iconst 1, 1) := by decide +kernel
theorem dX1_turn_59 : decode cX1_turn 59 = .ok (.invokevirtual 42, 3) := by decide +kernel
theorem dX1_turn_62 : decode cX1_turn 62 = .ok (.return_, 1) := by decide +kernel
def f_Coder_turn_b20 (F : Nat) : Nat → St → Int32 → Int32 → Int32 → Option (St)
  | 0, _, _, _, _ => none
  | n + 1, s, l2, l3, l4 =>
    if 40 ≤ l4 then
      ((f_Coder_settle F s 1).bind fun x4 => (some x4))
    else
      (if l2 ≤ l3 then
        ((f_Coder_settle F s 1).bind fun x5 => (some x5))
      else
        (if 40 ≤ l3 then
          ((f_Coder_settle F s 1).bind fun x6 => (some x6))
        else
          ((f_Coder_turnPart F s l3 (if 40 < l2 then 40 else l2)).bind fun x7 => (f_Coder_turn_b20 F n x7.2 l2 x7.1 (l4 + 1)))))
def f_Coder_turn (F : Nat) (s : St) (p2 : Int32) : Option (St) :=
  lt (sI s 1665 0) fun s1 => (lt (sI s1 1668 0) fun s2 => (lt (sI s2 1669 0) fun s3 => (f_Coder_turn_b20 F F s3 p2 0 0)))
set_option maxHeartbeats 1000000 in
theorem c_f_Coder_turn_b20 {F : Nat} {Γ : Ga} {D : DD} {B : Nat} {s' : St} (X : Cx Γ RX1 cX1_turn 5 D B { frames := 5, cells := 0, slots := 0, locals := 110 }) (hr : (Gme Γ).sig.returnType = none) : ∀ (n : Nat) {s : St} {l2 : Int32} {l3 : Int32} {l4 : Int32}, f_Coder_turn_b20 F n s l2 l3 l4 = some s' → V Γ D B true 5 (QM Γ D B true s' none 0 0) 0 0 s 20 [(0, .ref (B + 26)), (1, .ref (B + 1)), (2, .int l2), (3, .int l3), (4, .int l4)] [] := by
  intro n
  induction n with
  | zero => intro s l2 l3 l4 hf; rw [f_Coder_turn_b20] at hf; cases hf
  | succ n ih =>
    intro s l2 l3 l4 hf
    rw [f_Coder_turn_b20] at hf
    refine r_iload (pc := 20) X dX1_turn_20 4 rfl ?_
    refine r_bipush (v := 40) (pc := 22) X dX1_turn_22 (by decide) ?_
    refine b_icmp_ge (tgt := 57) (pc := 24) X dX1_turn_24 (by decide) hf (fun hf => ?_) (fun hf => ?_)
    · refine r_aload_n (x := some 26) (pc := 57) X dX1_turn_57 0 rfl ?_
      refine r_iconst (v := 1) (pc := 58) X dX1_turn_58 (by decide) ?_
      refine bnd hf (fun x4 h4 hf => ?_)
      refine r_callVv (As := [.int 1]) (st := []) (pc := 59) X (c_f_Coder_settle h4) rfl w_927 w_929 w_28 w_42 w_930 hdV_X1_settle (Rc.s rfl ce_26) (by decide) (by decide) (by decide) (Nat.le_of_ble_eq_true rfl) dX1_turn_59 rfl ?_
      exact e_vret (pc := 62) X hr hf (Nat.le_refl _) (Nat.le_refl _) dX1_turn_62
    · refine r_iload_n (pc := 27) X dX1_turn_27 3 rfl ?_
      refine r_iload_n (pc := 28) X dX1_turn_28 2 rfl ?_
      refine b_icmp_ge (tgt := 57) (pc := 29) X dX1_turn_29 (by decide) hf (fun hf => ?_) (fun hf => ?_)
      · refine r_aload_n (x := some 26) (pc := 57) X dX1_turn_57 0 rfl ?_
        refine r_iconst (v := 1) (pc := 58) X dX1_turn_58 (by decide) ?_
        refine bnd hf (fun x5 h5 hf => ?_)
        refine r_callVv (As := [.int 1]) (st := []) (pc := 59) X (c_f_Coder_settle h5) rfl w_927 w_929 w_28 w_42 w_930 hdV_X1_settle (Rc.s rfl ce_26) (by decide) (by decide) (by decide) (Nat.le_of_ble_eq_true rfl) dX1_turn_59 rfl ?_
        exact e_vret (pc := 62) X hr hf (Nat.le_refl _) (Nat.le_refl _) dX1_turn_62
      · refine r_iload_n (pc := 32) X dX1_turn_32 3 rfl ?_
        refine r_aload_n (x := some 1) (pc := 33) X dX1_turn_33 1 rfl ?_
        refine r_alen (t0 := 0) (v := 40) (pc := 34) X ce_1 rfl (by decide) dX1_turn_34 ?_
        refine b_icmp_ge (tgt := 57) (pc := 35) X dX1_turn_35 (by decide) hf (fun hf => ?_) (fun hf => ?_)
        · refine r_aload_n (x := some 26) (pc := 57) X dX1_turn_57 0 rfl ?_
          refine r_iconst (v := 1) (pc := 58) X dX1_turn_58 (by decide) ?_
          refine bnd hf (fun x6 h6 hf => ?_)
          refine r_callVv (As := [.int 1]) (st := []) (pc := 59) X (c_f_Coder_settle h6) rfl w_927 w_929 w_28 w_42 w_930 hdV_X1_settle (Rc.s rfl ce_26) (by decide) (by decide) (by decide) (Nat.le_of_ble_eq_true rfl) dX1_turn_59 rfl ?_
          exact e_vret (pc := 62) X hr hf (Nat.le_refl _) (Nat.le_refl _) dX1_turn_62
        · refine r_aload_n (x := some 26) (pc := 38) X dX1_turn_38 0 rfl ?_
          refine r_aload_n (x := some 1) (pc := 39) X dX1_turn_39 1 rfl ?_
          refine r_iload_n (pc := 40) X dX1_turn_40 3 rfl ?_
          refine r_iload_n (pc := 41) X dX1_turn_41 2 rfl ?_
          refine r_aload_n (x := some 1) (pc := 42) X dX1_turn_42 1 rfl ?_
          refine r_alen (t0 := 0) (v := 40) (pc := 43) X ce_1 rfl (by decide) dX1_turn_43 ?_
          refine r_min (pc := 44) X w_898 w_540 w_51 w_mincode ⟨Nat.le_of_ble_eq_true rfl, Nat.le_of_ble_eq_true rfl⟩ (by decide) (by decide) dX1_turn_44 ?_
          refine bnd hf (fun x7 h7 hf => ?_)
          refine r_callVi (As := [.ref (B + 1), .int l3, .int (if 40 < l2 then 40 else l2)]) (st := []) (pc := 47) X (c_f_Coder_turnPart h7) rfl w_899 w_901 w_22 w_42 w_902 hdV_X1_turnPart (Rc.s rfl ce_26) (by decide) (by decide) (by decide) (Nat.le_of_ble_eq_true rfl) dX1_turn_47 rfl ?_
          refine r_istore_n (pc := 50) (lv' := [(0, .ref (B + 26)), (1, .ref (B + 1)), (2, .int l2), (3, .int x7.1), (4, .int l4)]) X dX1_turn_50 (by decide) [1, 2, 3, 0, 4] rfl ?_
          refine r_iinc (v := l4 + 1) (lv' := [(0, .ref (B + 26)), (1, .ref (B + 1)), (2, .int l2), (3, .int x7.1), (4, .int (l4 + 1))]) (pc := 51) X dX1_turn_51 4 rfl rfl (by decide) [1, 2, 3, 4, 0] rfl ?_
          refine r_goto (tgt := 20) (pc := 54) X dX1_turn_54 (by decide) ?_
          exact ih hf
set_option maxHeartbeats 1000000 in
theorem c_f_Coder_turn {F : Nat} {s : St} {p2 : Int32} {s' : St} (hf : f_Coder_turn F s p2 = some s') : CC true yX1_turn (Cond.code yX1_turn cX1_turn 5 none) 5 110 (fun B => [.ref (B + 26), .ref (B + 1), .int p2]) s (fun B => none) s' 0 0 := by
  refine CC.of (fun B => [(0, .ref (B + 26)), (1, .ref (B + 1)), (2, .int p2)]) (by decide +kernel) (fun _ => rfl) (fun _ => (by simp [lg_sl, rfB_cat, catI, catL, catR])) (fun Γ D B X hr hin => ?_)
  have X : Cx Γ RX1 cX1_turn 5 D B { frames := 5, cells := 0, slots := 0, locals := 110 } := X
  unfold f_Coder_turn at hf
  refine r_aload_n (x := some 26) (pc := 0) X dX1_turn_0 0 rfl ?_
  refine r_iconst (v := 0) (pc := 1) X dX1_turn_1 (by decide) ?_
  refine b_put (j := 1) (pc := 2) X ce_26 rfl inT1 tyX1 tyX1_ok nmX1 (by decide) w_204 rfl (tyX1_ok 1 (by decide)) rfl rfl (Nat.le_of_ble_eq_true rfl) (cp_1665 _) rfl rfl dX1_turn_2 hf (fun s1 hf => ?_)
  refine r_aload_n (x := some 26) (pc := 5) X dX1_turn_5 0 rfl ?_
  refine r_iconst (v := 0) (pc := 6) X dX1_turn_6 (by decide) ?_
  refine b_put (j := 4) (pc := 7) X ce_26 rfl inT1 tyX1 tyX1_ok nmX1 (by decide) w_208 rfl (tyX1_ok 4 (by decide)) rfl rfl (Nat.le_of_ble_eq_true rfl) (cp_1668 _) rfl rfl dX1_turn_7 hf (fun s2 hf => ?_)
  refine r_aload_n (x := some 26) (pc := 10) X dX1_turn_10 0 rfl ?_
  refine r_iconst (v := 0) (pc := 11) X dX1_turn_11 (by decide) ?_
  refine b_put (j := 5) (pc := 12) X ce_26 rfl inT1 tyX1 tyX1_ok nmX1 (by decide) w_209 rfl (tyX1_ok 5 (by decide)) rfl rfl (Nat.le_of_ble_eq_true rfl) (cp_1669 _) rfl rfl dX1_turn_12 hf (fun s3 hf => ?_)
  refine r_iconst (v := 0) (pc := 15) X dX1_turn_15 (by decide) ?_
  refine r_istore_n (pc := 16) (lv' := [(0, .ref (B + 26)), (1, .ref (B + 1)), (2, .int p2), (3, .int 0)]) X dX1_turn_16 (by decide) [1, 2, 3, 0] rfl ?_
  refine r_iconst (v := 0) (pc := 17) X dX1_turn_17 (by decide) ?_
  refine r_istore (pc := 18) (lv' := [(0, .ref (B + 26)), (1, .ref (B + 1)), (2, .int p2), (3, .int 0), (4, .int 0)]) X dX1_turn_18 (by decide) [1, 2, 3, 4, 0] rfl ?_
  exact c_f_Coder_turn_b20 X hr _ hf
/-! f_Logs_putInOrder -/
theorem dX2_putInOrder_0 : decode cX2_putInOrder 0 = .ok (.iload_n 2, 1) := by decide +kernel
theorem dX2_putInOrder_1 : decode cX2_putInOrder 1 = .ok (.iconst 0, 1) := by decide +kernel
theorem dX2_putInOrder_2 : decode cX2_putInOrder 2 = .ok (.sipush 1000, 3) := by decide +kernel
theorem dX2_putInOrder_5 : decode cX2_putInOrder 5 = .ok (.invokestatic 43, 3) := by decide +kernel
theorem dX2_putInOrder_8 : decode cX2_putInOrder 8 = .ok (.ifCond .eq 13, 3) := by decide +kernel
theorem dX2_putInOrder_11 : decode cX2_putInOrder 11 = .ok (.iload_n 1, 1) := by decide +kernel
theorem dX2_putInOrder_12 : decode cX2_putInOrder 12 = .ok (.iconst 0, 1) := by decide +kernel
theorem dX2_putInOrder_13 : decode cX2_putInOrder 13 = .ok (.bipush 99, 2) := by decide +kernel
theorem dX2_putInOrder_15 : decode cX2_putInOrder 15 = .ok (.invokestatic 43, 3) := by decide +kernel
theorem dX2_putInOrder_18 : decode cX2_putInOrder 18 = .ok (.ifCond .ne 4, 3) := by decide +kernel
theorem dX2_putInOrder_21 : decode cX2_putInOrder 21 = .ok (.return_, 1) := by decide +kernel
theorem dX2_putInOrder_22 : decode cX2_putInOrder 22 = .ok (.aload_n 0, 1) := by decide +kernel
theorem dX2_putInOrder_23 : decode cX2_putInOrder 23 = .ok (.getfield 30, 3) := by decide +kernel
theorem dX2_putInOrder_26 : decode cX2_putInOrder 26 = .ok (.iload_n 2, 1) := by decide +kernel
theorem dX2_putInOrder_27 : decode cX2_putInOrder 27 = .ok (.iconst 1, 1) := by decide +kernel
theorem dX2_putInOrder_28 : decode cX2_putInOrder 28 = .ok (.iadd, 1) := by decide +kernel
theorem dX2_putInOrder_29 : decode cX2_putInOrder 29 = .ok (.iaload, 1) := by decide +kernel
theorem dX2_putInOrder_30 : decode cX2_putInOrder 30 = .ok (.istore_n 3, 1) := by decide +kernel
theorem dX2_putInOrder_31 : decode cX2_putInOrder 31 = .ok (.iload_n 3, 1) := by decide +kernel
theorem dX2_putInOrder_32 : decode cX2_putInOrder 32 = .ok (.iconst 0, 1) := by decide +kernel
theorem dX2_putInOrder_33 : decode cX2_putInOrder 33 = .ok (.iload_n 1, 1) := by decide +kernel
theorem dX2_putInOrder_34 : decode cX2_putInOrder 34 = .ok (.invokestatic 43, 3) := by decide +kernel
theorem dX2_putInOrder_37 : decode cX2_putInOrder 37 = .ok (.ifCond .ne 4, 3) := by decide +kernel
theorem dX2_putInOrder_40 : decode cX2_putInOrder 40 = .ok (.return_, 1) := by decide +kernel
theorem dX2_putInOrder_41 : decode cX2_putInOrder 41 = .ok (.iload_n 1, 1) := by decide +kernel
theorem dX2_putInOrder_42 : decode cX2_putInOrder 42 = .ok (.istore 4, 2) := by decide +kernel
theorem dX2_putInOrder_44 : decode cX2_putInOrder 44 = .ok (.iload 4, 2) := by decide +kernel
theorem dX2_putInOrder_46 : decode cX2_putInOrder 46 = .ok (.iload_n 3, 1) := by decide +kernel
theorem dX2_putInOrder_47 : decode cX2_putInOrder 47 = .ok (.if_icmp .le 25, 3) := by decide +kernel
theorem dX2_putInOrder_50 : decode cX2_putInOrder 50 = .ok (.aload_n 0, 1) := by decide +kernel
theorem dX2_putInOrder_51 : decode cX2_putInOrder 51 = .ok (.getfield 27, 3) := by decide +kernel
theorem dX2_putInOrder_54 : decode cX2_putInOrder 54 = .ok (.iload 4, 2) := by decide +kernel
theorem dX2_putInOrder_56 : decode cX2_putInOrder 56 = .ok (.aload_n 0, 1) := by decide +kernel
theorem dX2_putInOrder_57 : decode cX2_putInOrder 57 = .ok (.getfield 27, 3) := by decide +kernel
theorem dX2_putInOrder_60 : decode cX2_putInOrder 60 = .ok (.iload 4, 2) := by decide +kernel
theorem dX2_putInOrder_62 : decode cX2_putInOrder 62 = .ok (.iconst 1, 1) := by decide +kernel
theorem dX2_putInOrder_63 : decode cX2_putInOrder 63 = .ok (.isub, 1) := by decide +kernel
theorem dX2_putInOrder_64 : decode cX2_putInOrder 64 = .ok (.iaload, 1) := by decide +kernel
theorem dX2_putInOrder_65 : decode cX2_putInOrder 65 = .ok (.iastore, 1) := by decide +kernel
theorem dX2_putInOrder_66 : decode cX2_putInOrder 66 = .ok (.iinc 4 (-1), 3) := by decide +kernel
theorem dX2_putInOrder_69 : decode cX2_putInOrder 69 = .ok (.goto (-25), 3) := by decide +kernel
theorem dX2_putInOrder_72 : decode cX2_putInOrder 72 = .ok (.aload_n 0, 1) := by decide +kernel
theorem dX2_putInOrder_73 : decode cX2_putInOrder 73 = .ok (.getfield 27, 3) := by decide +kernel
theorem dX2_putInOrder_76 : decode cX2_putInOrder 76 = .ok (.iload_n 3, 1) := by decide +kernel
theorem dX2_putInOrder_77 : decode cX2_putInOrder 77 = .ok (.iload_n 1, 1) := by decide +kernel
theorem dX2_putInOrder_78 : decode cX2_putInOrder 78 = .ok (.iastore, 1) := by decide +kernel
theorem dX2_putInOrder_79 : decode cX2_putInOrder 79 = .ok (.iload_n 2, 1) := by decide +kernel
theorem dX2_putInOrder_80 : decode cX2_putInOrder 80 = .ok (.iconst 1, 1) := by decide +kernel
theorem dX2_putInOrder_81 : decode cX2_putInOrder 81 = .ok (.iadd, 1) := by decide +kernel
theorem dX2_putInOrder_82 : decode cX2_putInOrder 82 = .ok (.istore 4, 2) := by decide +kernel
theorem dX2_putInOrder_84 : decode cX2_putInOrder 84 = .ok (.iload 4, 2) := by decide +kernel
theorem dX2_putInOrder_86 : decode cX2_putInOrder 86 = .ok (.aload_n 0, 1) := by decide +kernel
theorem dX2_putInOrder_87 : decode cX2_putInOrder 87 = .ok (.getfield 30, 3) := by decide +kernel
theorem dX2_putInOrder_90 : decode cX2_putInOrder 90 = .ok (.arraylength, 1) := by decide +kernel
theorem dX2_putInOrder_91 : decode cX2_putInOrder 91 = .ok (.if_icmp .ge 20, 3) := by decide +kernel
theorem dX2_putInOrder_94 : decode cX2_putInOrder 94 = .ok (.aload_n 0, 1) := by decide +kernel
theorem dX2_putInOrder_95 : decode cX2_putInOrder 95 = .ok (.getfield 30, 3) := by decide +kernel
theorem dX2_putInOrder_98 : decode cX2_putInOrder 98 = .ok (.iload 4, 2) := by decide +kernel
theorem dX2_putInOrder_100 : decode cX2_putInOrder 100 = .ok (.dup2, 1) := by decide +kernel
theorem dX2_putInOrder_101 : decode cX2_putInOrder 101 = .ok (.iaload, 1) := by decide +kernel
theorem dX2_putInOrder_102 : decode cX2_putInOrder 102 = .ok (.iconst 1, 1) := by decide +kernel
theorem dX2_putInOrder_103 : decode cX2_putInOrder 103 = .ok (.iadd, 1) := by decide +kernel
theorem dX2_putInOrder_104 : decode cX2_putInOrder 104 = .ok (.iastore, 1) := by decide +kernel
theorem dX2_putInOrder_105 : decode cX2_putInOrder 105 = .ok (.iinc 4 1, 3) := by decide +kernel
theorem dX2_putInOrder_108 : decode cX2_putInOrder 108 = .ok (.goto (-24), 3) := by decide +kernel
theorem dX2_putInOrder_111 : decode cX2_putInOrder 111 = .ok (.return_, 1) := by decide +kernel
def f_Logs_putInOrder_b84 (F : Nat) : Nat → St → Int32 → Option (St)
  | 0, _, _ => none
  | n + 1, s, l4 =>
    if 1002 ≤ l4 then
      (some s)
    else
      ((ix 1002 l4).bind fun j7 => ((ix 1002 l4).bind fun j8 => (lt (sA s 10 j8 ((gA s 10 j7) + 1)) fun s9 => (f_Logs_putInOrder_b84 F n s9 (l4 + 1)))))
def f_Logs_putInOrder_b44 (F : Nat) : Nat → St → Int32 → Int32 → Int32 → Int32 → Option (St)
  | 0, _, _, _, _, _ => none
  | n + 1, s, l1, l2, l3, l4 =>
    if l4 ≤ l3 then
      ((ix 100 l3).bind fun j5 => (lt (sA s 9 j5 l1) fun s6 => (f_Logs_putInOrder_b84 F F s6 (l2 + 1))))
    else
      ((ix 100 (l4 - 1)).bind fun j10 => ((ix 100 l4).bind fun j11 => (lt (sA s 9 j11 (gA s 9 j10)) fun s12 => (f_Logs_putInOrder_b44 F n s12 l1 l2 l3 (l4 + (-1))))))
def f_Logs_putInOrder (F : Nat) (s : St) (p1 : Int32) (p2 : Int32) : Option (St) :=
  (f_P_isIn F s p2 0 1000).bind fun x1 => (if x1.1 = 0 then
    (some x1.2)
  else
    ((f_P_isIn F x1.2 p1 0 99).bind fun x2 => (if x2.1 = 0 then
      (some x2.2)
    else
      ((ix 1002 (p2 + 1)).bind fun j3 => ((f_P_isIn F x2.2 (gA x2.2 10 j3) 0 p1).bind fun x4 => (if x4.1 = 0 then
        (some x4.2)
      else
        (f_Logs_putInOrder_b44 F F x4.2 p1 p2 (gA x2.2 10 j3) p1)))))))
set_option maxHeartbeats 1000000 in
theorem c_f_Logs_putInOrder_b84 {F : Nat} {Γ : Ga} {D : DD} {B : Nat} {s' : St} (X : Cx Γ RX2 cX2_putInOrder 5 D B { frames := 1, cells := 0, slots := 0, locals := 22 }) (hr : (Gme Γ).sig.returnType = none) : ∀ (n : Nat) {s : St} {l4 : Int32}, f_Logs_putInOrder_b84 F n s l4 = some s' → V Γ D B true 5 (QM Γ D B true s' none 0 0) 0 0 s 84 [(0, .ref (B + 3)), (4, .int l4)] [] := by
  intro n
  induction n with
  | zero => intro s l4 hf; rw [f_Logs_putInOrder_b84] at hf; cases hf
  | succ n ih =>
    intro s l4 hf
    rw [f_Logs_putInOrder_b84] at hf
    refine r_iload (pc := 84) X dX2_putInOrder_84 1 rfl ?_
    refine r_aload_n (x := some 3) (pc := 86) X dX2_putInOrder_86 0 rfl ?_
    refine r_get (j := 6) (pc := 87) X ce_3 rfl inT2 (by decide) w_78 rfl dX2_putInOrder_87 ?_
    refine r_alen (t0 := 1) (v := 1002) (pc := 90) X ce_10 rfl (by decide) dX2_putInOrder_90 ?_
    refine b_icmp_ge (tgt := 111) (pc := 91) X dX2_putInOrder_91 (by decide) hf (fun hf => ?_) (fun hf => ?_)
    · exact e_vret (pc := 111) X hr hf (Nat.le_refl _) (Nat.le_refl _) dX2_putInOrder_111
    · refine r_aload_n (x := some 3) (pc := 94) X dX2_putInOrder_94 0 rfl ?_
      refine r_get (j := 6) (pc := 95) X ce_3 rfl inT2 (by decide) w_78 rfl dX2_putInOrder_95 ?_
      refine r_iload (pc := 98) X dX2_putInOrder_98 1 rfl ?_
      refine r_dup2 (pc := 100) X dX2_putInOrder_100 rfl rfl ?_
      refine b_iald (pc := 101) X ce_10 dX2_putInOrder_101 hf (fun j7 hf => ?_)
      refine r_iconst (v := 1) (pc := 102) X dX2_putInOrder_102 (by decide) ?_
      refine r_iadd (pc := 103) X dX2_putInOrder_103 ?_
      refine b_iast (pc := 104) X ce_10 (fun _ => ca_10 _ _) dX2_putInOrder_104 hf (fun j8 s9 hf => ?_)
      refine r_iinc (v := l4 + 1) (lv' := [(0, .ref (B + 3)), (4, .int (l4 + 1))]) (pc := 105) X dX2_putInOrder_105 1 rfl rfl (by decide) [1, 0] rfl ?_
      refine r_goto (tgt := 84) (pc := 108) X dX2_putInOrder_108 (by decide) ?_
      exact ih hf
set_option maxHeartbeats 1000000 in
theorem c_f_Logs_putInOrder_b44 {F : Nat} {Γ : Ga} {D : DD} {B : Nat} {s' : St} (X : Cx Γ RX2 cX2_putInOrder 5 D B { frames := 1, cells := 0, slots := 0, locals := 22 }) (hr : (Gme Γ).sig.returnType = none) : ∀ (n : Nat) {s : St} {l1 : Int32} {l2 : Int32} {l3 : Int32} {l4 : Int32}, f_Logs_putInOrder_b44 F n s l1 l2 l3 l4 = some s' → V Γ D B true 5 (QM Γ D B true s' none 0 0) 0 0 s 44 [(0, .ref (B + 3)), (1, .int l1), (2, .int l2), (3, .int l3), (4, .int l4)] [] := by
  intro n
  induction n with
  | zero => intro s l1 l2 l3 l4 hf; rw [f_Logs_putInOrder_b44] at hf; cases hf
  | succ n ih =>
    intro s l1 l2 l3 l4 hf
    rw [f_Logs_putInOrder_b44] at hf
    refine r_iload (pc := 44) X dX2_putInOrder_44 4 rfl ?_
    refine r_iload_n (pc := 46) X dX2_putInOrder_46 3 rfl ?_
    refine b_icmp_le (tgt := 72) (pc := 47) X dX2_putInOrder_47 (by decide) hf (fun hf => ?_) (fun hf => ?_)
    · refine r_aload_n (x := some 3) (pc := 72) X dX2_putInOrder_72 0 rfl ?_
      refine r_get (j := 5) (pc := 73) X ce_3 rfl inT2 (by decide) w_77 rfl dX2_putInOrder_73 ?_
      refine r_iload_n (pc := 76) X dX2_putInOrder_76 3 rfl ?_
      refine r_iload_n (pc := 77) X dX2_putInOrder_77 1 rfl ?_
      refine b_iast (pc := 78) X ce_9 (fun _ => ca_9 _ _) dX2_putInOrder_78 hf (fun j5 s6 hf => ?_)
      refine r_iload_n (pc := 79) X dX2_putInOrder_79 2 rfl ?_
      refine r_iconst (v := 1) (pc := 80) X dX2_putInOrder_80 (by decide) ?_
      refine r_iadd (pc := 81) X dX2_putInOrder_81 ?_
      refine r_istore (pc := 82) (lv' := [(0, .ref (B + 3)), (4, .int (l2 + 1))]) X dX2_putInOrder_82 (by decide) [1, 0] rfl ?_
      exact c_f_Logs_putInOrder_b84 X hr _ hf
    · refine r_aload_n (x := some 3) (pc := 50) X dX2_putInOrder_50 0 rfl ?_
      refine r_get (j := 5) (pc := 51) X ce_3 rfl inT2 (by decide) w_77 rfl dX2_putInOrder_51 ?_
      refine r_iload (pc := 54) X dX2_putInOrder_54 4 rfl ?_
      refine r_aload_n (x := some 3) (pc := 56) X dX2_putInOrder_56 0 rfl ?_
      refine r_get (j := 5) (pc := 57) X ce_3 rfl inT2 (by decide) w_77 rfl dX2_putInOrder_57 ?_
      refine r_iload (pc := 60) X dX2_putInOrder_60 4 rfl ?_
      refine r_iconst (v := 1) (pc := 62) X dX2_putInOrder_62 (by decide) ?_
      refine r_isub (pc := 63) X dX2_putInOrder_63 ?_
      refine b_iald (pc := 64) X ce_9 dX2_putInOrder_64 hf (fun j10 hf => ?_)
      refine b_iast (pc := 65) X ce_9 (fun _ => ca_9 _ _) dX2_putInOrder_65 hf (fun j11 s12 hf => ?_)
      refine r_iinc (v := l4 + (-1)) (lv' := [(0, .ref (B + 3)), (1, .int l1), (2, .int l2), (3, .int l3), (4, .int (l4 + (-1)))]) (pc := 66) X dX2_putInOrder_66 4 rfl rfl (by decide) [1, 2, 3, 4, 0] rfl ?_
      refine r_goto (tgt := 44) (pc := 69) X dX2_putInOrder_69 (by decide) ?_
      exact ih hf
set_option maxHeartbeats 1000000 in
theorem c_f_Logs_putInOrder {F : Nat} {s : St} {p1 : Int32} {p2 : Int32} {s' : St} (hf : f_Logs_putInOrder F s p1 p2 = some s') : CC true yX2_putInOrder (Cond.code yX2_putInOrder cX2_putInOrder 5 none) 1 22 (fun B => [.ref (B + 3), .int p1, .int p2]) s (fun B => none) s' 0 0 := by
  refine CC.of (fun B => [(0, .ref (B + 3)), (1, .int p1), (2, .int p2)]) (by decide +kernel) (fun _ => rfl) (fun _ => (by simp [lg_sl, rfB_cat, catI, catL, catR])) (fun Γ D B X hr hin => ?_)
  have X : Cx Γ RX2 cX2_putInOrder 5 D B { frames := 1, cells := 0, slots := 0, locals := 22 } := X
  unfold f_Logs_putInOrder at hf
  refine r_iload_n (pc := 0) X dX2_putInOrder_0 2 rfl ?_
  refine r_iconst (v := 0) (pc := 1) X dX2_putInOrder_1 (by decide) ?_
  refine r_sipush (v := 1000) (pc := 2) X dX2_putInOrder_2 (by decide) ?_
  refine bnd hf (fun x1 h1 hf => ?_)
  refine r_callSNi (As := [.int p2, .int 0, .int 1000]) (st := []) (pc := 5) X (c_f_P_isIn h1) rfl wn_543 w_342 w_36 w_343 hdS_X10_isIn (by decide) (by decide) (by decide) (Nat.le_of_ble_eq_true rfl) dX2_putInOrder_5 rfl ?_
  refine b_if_eq (tgt := 21) (pc := 8) X dX2_putInOrder_8 (by decide) hf (fun hf => ?_) (fun hf => ?_)
  · exact e_vret (pc := 21) X hr hf (Nat.le_refl _) (Nat.le_refl _) dX2_putInOrder_21
  · refine r_iload_n (pc := 11) X dX2_putInOrder_11 1 rfl ?_
    refine r_iconst (v := 0) (pc := 12) X dX2_putInOrder_12 (by decide) ?_
    refine r_bipush (v := 99) (pc := 13) X dX2_putInOrder_13 (by decide) ?_
    refine bnd hf (fun x2 h2 hf => ?_)
    refine r_callSNi (As := [.int p1, .int 0, .int 99]) (st := []) (pc := 15) X (c_f_P_isIn h2) rfl wn_543 w_342 w_36 w_343 hdS_X10_isIn (by decide) (by decide) (by decide) (Nat.le_of_ble_eq_true rfl) dX2_putInOrder_15 rfl ?_
    refine b_if_ne (tgt := 22) (pc := 18) X dX2_putInOrder_18 (by decide) hf (fun hf => ?_) (fun hf => ?_)
    · exact e_vret (pc := 21) X hr hf (Nat.le_refl _) (Nat.le_refl _) dX2_putInOrder_21
    · refine r_aload_n (x := some 3) (pc := 22) X dX2_putInOrder_22 0 rfl ?_
      refine r_get (j := 6) (pc := 23) X ce_3 rfl inT2 (by decide) w_78 rfl dX2_putInOrder_23 ?_
      refine r_iload_n (pc := 26) X dX2_putInOrder_26 2 rfl ?_
      refine r_iconst (v := 1) (pc := 27) X dX2_putInOrder_27 (by decide) ?_
      refine r_iadd (pc := 28) X dX2_putInOrder_28 ?_
      refine b_iald (pc := 29) X ce_10 dX2_putInOrder_29 hf (fun j3 hf => ?_)
      refine r_istore_n (pc := 30) (lv' := [(0, .ref (B + 3)), (1, .int p1), (2, .int p2), (3, .int (gA x2.2 10 j3))]) X dX2_putInOrder_30 (by decide) [1, 2, 3, 0] rfl ?_
      refine r_iload_n (pc := 31) X dX2_putInOrder_31 3 rfl ?_
      refine r_iconst (v := 0) (pc := 32) X dX2_putInOrder_32 (by decide) ?_
      refine r_iload_n (pc := 33) X dX2_putInOrder_33 1 rfl ?_
      refine bnd hf (fun x4 h4 hf => ?_)
      refine r_callSNi (As := [.int (gA x2.2 10 j3), .int 0, .int p1]) (st := []) (pc := 34) X (c_f_P_isIn h4) rfl wn_543 w_342 w_36 w_343 hdS_X10_isIn (by decide) (by decide) (by decide) (Nat.le_of_ble_eq_true rfl) dX2_putInOrder_34 rfl ?_
      refine b_if_ne (tgt := 41) (pc := 37) X dX2_putInOrder_37 (by decide) hf (fun hf => ?_) (fun hf => ?_)
      · exact e_vret (pc := 40) X hr hf (Nat.le_refl _) (Nat.le_refl _) dX2_putInOrder_40
      · refine r_iload_n (pc := 41) X dX2_putInOrder_41 1 rfl ?_
        refine r_istore (pc := 42) (lv' := [(0, .ref (B + 3)), (1, .int p1), (2, .int p2), (3, .int (gA x2.2 10 j3)), (4, .int p1)]) X dX2_putInOrder_42 (by decide) [1, 2, 3, 4, 0] rfl ?_
        exact c_f_Logs_putInOrder_b44 X hr _ hf
/-! f_Logs_add -/
theorem dX2_add_0 : decode cX2_add 0 = .ok (.aload_n 0, 1) := by decide +kernel
theorem dX2_add_1 : decode cX2_add 1 = .ok (.getfield 36, 3) := by decide +kernel
theorem dX2_add_4 : decode cX2_add 4 = .ok (.ifCond .lt 24, 3) := by decide +kernel
theorem dX2_add_7 : decode cX2_add 7 = .ok (.aload_n 0, 1) := by decide +kernel
theorem dX2_add_8 : decode cX2_add 8 = .ok (.getfield 36, 3) := by decide +kernel
theorem dX2_add_11 : decode cX2_add 11 = .ok (.bipush 100, 2) := by decide +kernel
theorem dX2_add_13 : decode cX2_add 13 = .ok (.if_icmp .ge 15, 3) := by decide +kernel
theorem dX2_add_16 : decode cX2_add 16 = .ok (.iload 4, 2) := by decide +kernel
theorem dX2_add_18 : decode cX2_add 18 = .ok (.iconst 0, 1) := by decide +kernel
theorem dX2_add_19 : decode cX2_add 19 = .ok (.sipush 1000, 3) := by decide +kernel
theorem dX2_add_22 : decode cX2_add 22 = .ok (.invokestatic 43, 3) := by decide +kernel
theorem dX2_add_25 : decode cX2_add 25 = .ok (.ifCond .ne 5, 3) := by decide +kernel
theorem dX2_add_28 : decode cX2_add 28 = .ok (.iconst (-1), 1) := by decide +kernel
theorem dX2_add_29 : decode cX2_add 29 = .ok (.ireturn, 1) := by decide +kernel
theorem dX2_add_30 : decode cX2_add 30 = .ok (.aload_n 0, 1) := by decide +kernel
theorem dX2_add_31 : decode cX2_add 31 = .ok (.getfield 9, 3) := by decide +kernel
theorem dX2_add_34 : decode cX2_add 34 = .ok (.aload_n 0, 1) := by decide +kernel
theorem dX2_add_35 : decode cX2_add 35 = .ok (.getfield 36, 3) := by decide +kernel
theorem dX2_add_38 : decode cX2_add 38 = .ok (.iload_n 1, 1) := by decide +kernel
theorem dX2_add_39 : decode cX2_add 39 = .ok (.iastore, 1) := by decide +kernel
theorem dX2_add_40 : decode cX2_add 40 = .ok (.aload_n 0, 1) := by decide +kernel
theorem dX2_add_41 : decode cX2_add 41 = .ok (.getfield 15, 3) := by decide +kernel
theorem dX2_add_44 : decode cX2_add 44 = .ok (.aload_n 0, 1) := by decide +kernel
theorem dX2_add_45 : decode cX2_add 45 = .ok (.getfield 36, 3) := by decide +kernel
theorem dX2_add_48 : decode cX2_add 48 = .ok (.iload_n 2, 1) := by decide +kernel
theorem dX2_add_49 : decode cX2_add 49 = .ok (.iastore, 1) := by decide +kernel
theorem dX2_add_50 : decode cX2_add 50 = .ok (.aload_n 0, 1) := by decide +kernel
theorem dX2_add_51 : decode cX2_add 51 = .ok (.getfield 18, 3) := by decide +kernel
theorem dX2_add_54 : decode cX2_add 54 = .ok (.aload_n 0, 1) := by decide +kernel
theorem dX2_add_55 : decode cX2_add 55 = .ok (.getfield 36, 3) := by decide +kernel
theorem dX2_add_58 : decode cX2_add 58 = .ok (.iload_n 3, 1) := by decide +kernel
theorem dX2_add_59 : decode cX2_add 59 = .ok (.iastore, 1) := by decide +kernel
theorem dX2_add_60 : decode cX2_add 60 = .ok (.aload_n 0, 1) := by decide +kernel
theorem dX2_add_61 : decode cX2_add 61 = .ok (.getfield 21, 3) := by decide +kernel
theorem dX2_add_64 : decode cX2_add 64 = .ok (.aload_n 0, 1) := by decide +kernel
theorem dX2_add_65 : decode cX2_add 65 = .ok (.getfield 36, 3) := by decide +kernel
theorem dX2_add_68 : decode cX2_add 68 = .ok (.iload 4, 2) := by decide +kernel
theorem dX2_add_70 : decode cX2_add 70 = .ok (.iastore, 1) := by decide +kernel
theorem dX2_add_71 : decode cX2_add 71 = .ok (.aload_n 0, 1) := by decide +kernel
theorem dX2_add_72 : decode cX2_add 72 = .ok (.getfield 24, 3) := by decide +kernel
theorem dX2_add_75 : decode cX2_add 75 = .ok (.aload_n 0, 1) := by decide +kernel
theorem dX2_add_76 : decode cX2_add 76 = .ok (.getfield 36, 3) := by decide +kernel
theorem dX2_add_79 : decode cX2_add 79 = .ok (.iload 5, 2) := by decide +kernel
theorem dX2_add_81 : decode cX2_add 81 = .ok (.iastore, 1) := by decide +kernel
theorem dX2_add_82 : decode cX2_add 82 = .ok (.aload_n 0, 1) := by decide +kernel
theorem dX2_add_83 : decode cX2_add 83 = .ok (.aload_n 0, 1) := by decide +kernel
theorem dX2_add_84 : decode cX2_add 84 = .ok (.getfield 36, 3) := by decide +kernel
theorem dX2_add_87 : decode cX2_add 87 = .ok (.iload 4, 2) := by decide +kernel
theorem dX2_add_89 : decode cX2_add 89 = .ok (.invokevirtual 47, 3) := by decide +kernel
theorem dX2_add_92 : decode cX2_add 92 = .ok (.aload_n 0, 1) := by decide +kernel
theorem dX2_add_93 : decode cX2_add 93 = .ok (.dup, 1) := by decide +kernel
theorem dX2_add_94 : decode cX2_add 94 = .ok (.getfield 36, 3) := by decide +kernel
theorem dX2_add_97 : decode cX2_add 97 = .ok (.iconst 1, 1) := by decide +kernel
theorem dX2_add_98 : decode cX2_add 98 = .ok (.iadd, 1) := by decide +kernel
theorem dX2_add_99 : decode cX2_add 99 = .ok (.putfield 36, 3) := by decide +kernel
theorem dX2_add_102 : decode cX2_add 102 = .ok (.aload_n 0, 1) := by decide +kernel
theorem dX2_add_103 : decode cX2_add 103 = .ok (.getfield 36, 3) := by decide +kernel
theorem dX2_add_106 : decode cX2_add 106 = .ok (.iconst 1, 1) := by decide +kernel
theorem dX2_add_107 : decode cX2_add 107 = .ok (.isub, 1) := by decide +kernel
theorem dX2_add_108 : decode cX2_add 108 = .ok (.ireturn, 1) := by decide +kernel
def f_Logs_add (F : Nat) (s : St) (p1 : Int32) (p2 : Int32) (p3 : Int32) (p4 : Int32) (p5 : Int32) : Option (Int32 × St) :=
  if (gI s 200) < 0 then
    (some ((-1), s))
  else
    (if 100 ≤ (gI s 200) then
      (some ((-1), s))
    else
      ((f_P_isIn F s p4 0 1000).bind fun x1 => (if x1.1 = 0 then
        (some ((-1), x1.2))
      else
        ((ix 100 (gI x1.2 200)).bind fun j2 => (lt (sA x1.2 4 j2 p1) fun s3 => ((ix 100 (gI s3 200)).bind fun j4 => (lt (sA s3 5 j4 p2) fun s5 => ((ix 100 (gI s5 200)).bind fun j6 => (lt (sA s5 6 j6 p3) fun s7 => ((ix 100 (gI s7 200)).bind fun j8 => (lt (sA s7 7 j8 p4) fun s9 => ((ix 100 (gI s9 200)).bind fun j10 => (lt (sA s9 8 j10 p5) fun s11 => ((f_Logs_putInOrder F s11 (gI s11 200) p4).bind fun x12 => (lt (sI x12 200 ((gI x12 200) + 1)) fun s13 => (some (((gI s13 200) - 1), s13)))))))))))))))))
set_option maxHeartbeats 1000000 in
theorem c_f_Logs_add {F : Nat} {s : St} {p1 : Int32} {p2 : Int32} {p3 : Int32} {p4 : Int32} {p5 : Int32} {r : Int32} {s' : St} (hf : f_Logs_add F s p1 p2 p3 p4 p5 = some (r, s')) : CC true yX2_add (Cond.code yX2_add cX2_add 6 (some .int)) 2 46 (fun B => [.ref (B + 3), .int p1, .int p2, .int p3, .int p4, .int p5]) s (fun B => (some (.int r))) s' 0 0 := by
  refine CC.of (fun B => [(0, .ref (B + 3)), (1, .int p1), (2, .int p2), (3, .int p3), (4, .int p4), (5, .int p5)]) (by decide +kernel) (fun _ => rfl) (fun _ => (by simp [lg_sl, rfB_cat, catI, catL, catR])) (fun Γ D B X hr hin => ?_)
  have X : Cx Γ RX2 cX2_add 6 D B { frames := 2, cells := 0, slots := 0, locals := 46 } := X
  unfold f_Logs_add at hf
  refine r_aload_n (x := some 3) (pc := 0) X dX2_add_0 0 rfl ?_
  refine r_get (j := 8) (pc := 1) X ce_3 rfl inT2 (by decide) w_82 rfl dX2_add_1 ?_
  refine b_if_lt (tgt := 28) (pc := 4) X dX2_add_4 (by decide) hf (fun hf => ?_) (fun hf => ?_)
  · refine r_iconst (v := -1) (pc := 28) X dX2_add_28 (by decide) ?_
    exact e_iret (pc := 29) X hr hf (Nat.le_refl _) (Nat.le_refl _) dX2_add_29
  · refine r_aload_n (x := some 3) (pc := 7) X dX2_add_7 0 rfl ?_
    refine r_get (j := 8) (pc := 8) X ce_3 rfl inT2 (by decide) w_82 rfl dX2_add_8 ?_
    refine r_bipush (v := 100) (pc := 11) X dX2_add_11 (by decide) ?_
    refine b_icmp_ge (tgt := 28) (pc := 13) X dX2_add_13 (by decide) hf (fun hf => ?_) (fun hf => ?_)
    · refine r_iconst (v := -1) (pc := 28) X dX2_add_28 (by decide) ?_
      exact e_iret (pc := 29) X hr hf (Nat.le_refl _) (Nat.le_refl _) dX2_add_29
    · refine r_iload (pc := 16) X dX2_add_16 4 rfl ?_
      refine r_iconst (v := 0) (pc := 18) X dX2_add_18 (by decide) ?_
      refine r_sipush (v := 1000) (pc := 19) X dX2_add_19 (by decide) ?_
      refine bnd hf (fun x1 h1 hf => ?_)
      refine r_callSNi (As := [.int p4, .int 0, .int 1000]) (st := []) (pc := 22) X (c_f_P_isIn h1) rfl wn_543 w_342 w_36 w_343 hdS_X10_isIn (by decide) (by decide) (by decide) (Nat.le_of_ble_eq_true rfl) dX2_add_22 rfl ?_
      refine b_if_ne (tgt := 30) (pc := 25) X dX2_add_25 (by decide) hf (fun hf => ?_) (fun hf => ?_)
      · refine r_iconst (v := -1) (pc := 28) X dX2_add_28 (by decide) ?_
        exact e_iret (pc := 29) X hr hf (Nat.le_refl _) (Nat.le_refl _) dX2_add_29
      · refine r_aload_n (x := some 3) (pc := 30) X dX2_add_30 0 rfl ?_
        refine r_get (j := 0) (pc := 31) X ce_3 rfl inT2 (by decide) w_72 rfl dX2_add_31 ?_
        refine r_aload_n (x := some 3) (pc := 34) X dX2_add_34 0 rfl ?_
        refine r_get (j := 8) (pc := 35) X ce_3 rfl inT2 (by decide) w_82 rfl dX2_add_35 ?_
        refine r_iload_n (pc := 38) X dX2_add_38 1 rfl ?_
        refine b_iast (pc := 39) X ce_4 (fun _ => ca_4 _ _) dX2_add_39 hf (fun j2 s3 hf => ?_)
        refine r_aload_n (x := some 3) (pc := 40) X dX2_add_40 0 rfl ?_
        refine r_get (j := 1) (pc := 41) X ce_3 rfl inT2 (by decide) w_73 rfl dX2_add_41 ?_
        refine r_aload_n (x := some 3) (pc := 44) X dX2_add_44 0 rfl ?_
        refine r_get (j := 8) (pc := 45) X ce_3 rfl inT2 (by decide) w_82 rfl dX2_add_45 ?_
        refine r_iload_n (pc := 48) X dX2_add_48 2 rfl ?_
        refine b_iast (pc := 49) X ce_5 (fun _ => ca_5 _ _) dX2_add_49 hf (fun j4 s5 hf => ?_)
        refine r_aload_n (x := some 3) (pc := 50) X dX2_add_50 0 rfl ?_
        refine r_get (j := 2) (pc := 51) X ce_3 rfl inT2 (by decide) w_74 rfl dX2_add_51 ?_
        refine r_aload_n (x := some 3) (pc := 54) X dX2_add_54 0 rfl ?_
        refine r_get (j := 8) (pc := 55) X ce_3 rfl inT2 (by decide) w_82 rfl dX2_add_55 ?_
        refine r_iload_n (pc := 58) X dX2_add_58 3 rfl ?_
        refine b_iast (pc := 59) X ce_6 (fun _ => ca_6 _ _) dX2_add_59 hf (fun j6 s7 hf => ?_)
        refine r_aload_n (x := some 3) (pc := 60) X dX2_add_60 0 rfl ?_
        refine r_get (j := 3) (pc := 61) X ce_3 rfl inT2 (by decide) w_75 rfl dX2_add_61 ?_
        refine r_aload_n (x := some 3) (pc := 64) X dX2_add_64 0 rfl ?_
        refine r_get (j := 8) (pc := 65) X ce_3 rfl inT2 (by decide) w_82 rfl dX2_add_65 ?_
        refine r_iload (pc := 68) X dX2_add_68 4 rfl ?_
        refine b_iast (pc := 70) X ce_7 (fun _ => ca_7 _ _) dX2_add_70 hf (fun j8 s9 hf => ?_)
        refine r_aload_n (x := some 3) (pc := 71) X dX2_add_71 0 rfl ?_
        refine r_get (j := 4) (pc := 72) X ce_3 rfl inT2 (by decide) w_76 rfl dX2_add_72 ?_
        refine r_aload_n (x := some 3) (pc := 75) X dX2_add_75 0 rfl ?_
        refine r_get (j := 8) (pc := 76) X ce_3 rfl inT2 (by decide) w_82 rfl dX2_add_76 ?_
        refine r_iload (pc := 79) X dX2_add_79 5 rfl ?_
        refine b_iast (pc := 81) X ce_8 (fun _ => ca_8 _ _) dX2_add_81 hf (fun j10 s11 hf => ?_)
        refine r_aload_n (x := some 3) (pc := 82) X dX2_add_82 0 rfl ?_
        refine r_aload_n (x := some 3) (pc := 83) X dX2_add_83 0 rfl ?_
        refine r_get (j := 8) (pc := 84) X ce_3 rfl inT2 (by decide) w_82 rfl dX2_add_84 ?_
        refine r_iload (pc := 87) X dX2_add_87 4 rfl ?_
        refine bnd hf (fun x12 h12 hf => ?_)
        refine r_callVv (As := [.int (gI s11 200), .int p4]) (st := []) (pc := 89) X (c_f_Logs_putInOrder h12) rfl w_603 w_605 w_11 w_37 w_606 hdV_X2_putInOrder (Rc.s rfl ce_3) (by decide) (by decide) (by decide) (Nat.le_of_ble_eq_true rfl) dX2_add_89 rfl ?_
        refine r_aload_n (x := some 3) (pc := 92) X dX2_add_92 0 rfl ?_
        refine r_dup (pc := 93) X dX2_add_93 rfl ?_
        refine r_get (j := 8) (pc := 94) X ce_3 rfl inT2 (by decide) w_82 rfl dX2_add_94 ?_
        refine r_iconst (v := 1) (pc := 97) X dX2_add_97 (by decide) ?_
        refine r_iadd (pc := 98) X dX2_add_98 ?_
        refine b_put (j := 8) (pc := 99) X ce_3 rfl inT2 tyX2 tyX2_ok nmX2 (by decide) w_82 rfl (tyX2_ok 8 (by decide)) rfl rfl (Nat.le_of_ble_eq_true rfl) (cp_200 _) rfl rfl dX2_add_99 hf (fun s13 hf => ?_)
        refine r_aload_n (x := some 3) (pc := 102) X dX2_add_102 0 rfl ?_
        refine r_get (j := 8) (pc := 103) X ce_3 rfl inT2 (by decide) w_82 rfl dX2_add_103 ?_
        refine r_iconst (v := 1) (pc := 106) X dX2_add_106 (by decide) ?_
        refine r_isub (pc := 107) X dX2_add_107 ?_
        exact e_iret (pc := 108) X hr hf (Nat.le_refl _) (Nat.le_refl _) dX2_add_108
/-! f_Logs_fieldOf -/
theorem dX2_fieldOf_0 : decode cX2_fieldOf 0 = .ok (.iload_n 2, 1) := by decide +kernel
theorem dX2_fieldOf_1 : decode cX2_fieldOf 1 = .ok (.ifCond .lt 17, 3) := by decide +kernel
theorem dX2_fieldOf_4 : decode cX2_fieldOf 4 = .ok (.iload_n 2, 1) := by decide +kernel
theorem dX2_fieldOf_5 : decode cX2_fieldOf 5 = .ok (.aload_n 0, 1) := by decide +kernel
theorem dX2_fieldOf_6 : decode cX2_fieldOf 6 = .ok (.getfield 36, 3) := by decide +kernel
theorem dX2_fieldOf_9 : decode cX2_fieldOf 9 = .ok (.if_icmp .ge 9, 3) := by decide +kernel
theorem dX2_fieldOf_12 : decode cX2_fieldOf 12 = .ok (.iload_n 2, 1) := by decide +kernel
theorem dX2_fieldOf_13 : decode cX2_fieldOf 13 = .ok (.bipush 100, 2) := by decide +kernel
theorem dX2_fieldOf_15 : decode cX2_fieldOf 15 = .ok (.if_icmp .lt 5, 3) := by decide +kernel
theorem dX2_fieldOf_18 : decode cX2_fieldOf 18 = .ok (.iconst 0, 1) := by decide +kernel
theorem dX2_fieldOf_19 : decode cX2_fieldOf 19 = .ok (.ireturn, 1) := by decide +kernel
theorem dX2_fieldOf_20 : decode cX2_fieldOf 20 = .ok (.iload_n 1, 1) := by decide +kernel
theorem dX2_fieldOf_21 : decode cX2_fieldOf 21 = .ok (.lookupswitch 74 #[(104, 64), (108, 50), (112, 43), (118, 57)], 43) := by decide +kernel
theorem dX2_fieldOf_64 : decode cX2_fieldOf 64 = .ok (.aload_n 0, 1) := by decide +kernel
theorem dX2_fieldOf_65 : decode cX2_fieldOf 65 = .ok (.getfield 9, 3) := by decide +kernel
theorem dX2_fieldOf_68 : decode cX2_fieldOf 68 = .ok (.iload_n 2, 1) := by decide +kernel
theorem dX2_fieldOf_69 : decode cX2_fieldOf 69 = .ok (.iaload, 1) := by decide +kernel
theorem dX2_fieldOf_70 : decode cX2_fieldOf 70 = .ok (.ireturn, 1) := by decide +kernel
theorem dX2_fieldOf_71 : decode cX2_fieldOf 71 = .ok (.aload_n 0, 1) := by decide +kernel
theorem dX2_fieldOf_72 : decode cX2_fieldOf 72 = .ok (.getfield 15, 3) := by decide +kernel
theorem dX2_fieldOf_75 : decode cX2_fieldOf 75 = .ok (.iload_n 2, 1) := by decide +kernel
theorem dX2_fieldOf_76 : decode cX2_fieldOf 76 = .ok (.iaload, 1) := by decide +kernel
theorem dX2_fieldOf_77 : decode cX2_fieldOf 77 = .ok (.ireturn, 1) := by decide +kernel
theorem dX2_fieldOf_78 : decode cX2_fieldOf 78 = .ok (.aload_n 0, 1) := by decide +kernel
theorem dX2_fieldOf_79 : decode cX2_fieldOf 79 = .ok (.getfield 18, 3) := by decide +kernel
theorem dX2_fieldOf_82 : decode cX2_fieldOf 82 = .ok (.iload_n 2, 1) := by decide +kernel
theorem dX2_fieldOf_83 : decode cX2_fieldOf 83 = .ok (.iaload, 1) := by decide +kernel
theorem dX2_fieldOf_84 : decode cX2_fieldOf 84 = .ok (.ireturn, 1) := by decide +kernel
theorem dX2_fieldOf_85 : decode cX2_fieldOf 85 = .ok (.aload_n 0, 1) := by decide +kernel
theorem dX2_fieldOf_86 : decode cX2_fieldOf 86 = .ok (.getfield 21, 3) := by decide +kernel
theorem dX2_fieldOf_89 : decode cX2_fieldOf 89 = .ok (.iload_n 2, 1) := by decide +kernel
theorem dX2_fieldOf_90 : decode cX2_fieldOf 90 = .ok (.iaload, 1) := by decide +kernel
theorem dX2_fieldOf_91 : decode cX2_fieldOf 91 = .ok (.bipush 24, 2) := by decide +kernel
theorem dX2_fieldOf_93 : decode cX2_fieldOf 93 = .ok (.irem, 1) := by decide +kernel
theorem dX2_fieldOf_94 : decode cX2_fieldOf 94 = .ok (.ireturn, 1) := by decide +kernel
theorem dX2_fieldOf_95 : decode cX2_fieldOf 95 = .ok (.iconst 0, 1) := by decide +kernel
theorem dX2_fieldOf_96 : decode cX2_fieldOf 96 = .ok (.ireturn, 1) := by decide +kernel
def f_Logs_fieldOf (F : Nat) (s : St) (p1 : Int32) (p2 : Int32) : Option (Int32 × St) :=
  if p2 < 0 then
    (some (0, s))
  else
    (if (gI s 200) ≤ p2 then
      (some (0, s))
    else
      (if p2 < 100 then
        (if p1 = 104 then
          ((ix 100 p2).bind fun j1 => (some (((gA s 7 j1) - (gA s 7 j1) / 24 * 24), s)))
        else if p1 = 108 then
          ((ix 100 p2).bind fun j2 => (some ((gA s 5 j2), s)))
        else if p1 = 112 then
          ((ix 100 p2).bind fun j3 => (some ((gA s 4 j3), s)))
        else if p1 = 118 then
          ((ix 100 p2).bind fun j4 => (some ((gA s 6 j4), s)))
        else 
          (some (0, s)))
      else
        (some (0, s))))
set_option maxHeartbeats 1000000 in
theorem c_f_Logs_fieldOf {F : Nat} {s : St} {p1 : Int32} {p2 : Int32} {r : Int32} {s' : St} (hf : f_Logs_fieldOf F s p1 p2 = some (r, s')) : CC true yX2_fieldOf (Cond.code yX2_fieldOf cX2_fieldOf 3 (some .int)) 0 0 (fun B => [.ref (B + 3), .int p1, .int p2]) s (fun B => (some (.int r))) s' 0 0 := by
  refine CC.of (fun B => [(0, .ref (B + 3)), (1, .int p1), (2, .int p2)]) (by decide +kernel) (fun _ => rfl) (fun _ => (by simp [lg_sl, rfB_cat, catI, catL, catR])) (fun Γ D B X hr hin => ?_)
  have X : Cx Γ RX2 cX2_fieldOf 3 D B { frames := 0, cells := 0, slots := 0, locals := 0 } := X
  unfold f_Logs_fieldOf at hf
  refine r_iload_n (pc := 0) X dX2_fieldOf_0 2 rfl ?_
  refine b_if_lt (tgt := 18) (pc := 1) X dX2_fieldOf_1 (by decide) hf (fun hf => ?_) (fun hf => ?_)
  · refine r_iconst (v := 0) (pc := 18) X dX2_fieldOf_18 (by decide) ?_
    exact e_iret (pc := 19) X hr hf (Nat.le_refl _) (Nat.le_refl _) dX2_fieldOf_19
  · refine r_iload_n (pc := 4) X dX2_fieldOf_4 2 rfl ?_
    refine r_aload_n (x := some 3) (pc := 5) X dX2_fieldOf_5 0 rfl ?_
    refine r_get (j := 8) (pc := 6) X ce_3 rfl inT2 (by decide) w_82 rfl dX2_fieldOf_6 ?_
    refine b_icmp_ge (tgt := 18) (pc := 9) X dX2_fieldOf_9 (by decide) hf (fun hf => ?_) (fun hf => ?_)
    · refine r_iconst (v := 0) (pc := 18) X dX2_fieldOf_18 (by decide) ?_
      exact e_iret (pc := 19) X hr hf (Nat.le_refl _) (Nat.le_refl _) dX2_fieldOf_19
    · refine r_iload_n (pc := 12) X dX2_fieldOf_12 2 rfl ?_
      refine r_bipush (v := 100) (pc := 13) X dX2_fieldOf_13 (by decide) ?_
      refine b_icmp_lt (tgt := 20) (pc := 15) X dX2_fieldOf_15 (by decide) hf (fun hf => ?_) (fun hf => ?_)
      · refine r_iload_n (pc := 20) X dX2_fieldOf_20 1 rfl ?_
        refine sw hf (fun e0 hf => ?_) (fun e0 hf => ?_)
        · refine r_lookup (tgt := 85) (pc := 21) X dX2_fieldOf_21 (by decide) (by rw [e0] <;> rfl) (by decide) ?_
          refine r_aload_n (x := some 3) (pc := 85) X dX2_fieldOf_85 0 rfl ?_
          refine r_get (j := 3) (pc := 86) X ce_3 rfl inT2 (by decide) w_75 rfl dX2_fieldOf_86 ?_
          refine r_iload_n (pc := 89) X dX2_fieldOf_89 2 rfl ?_
          refine b_iald (pc := 90) X ce_7 dX2_fieldOf_90 hf (fun j1 hf => ?_)
          refine r_bipush (v := 24) (pc := 91) X dX2_fieldOf_91 (by decide) ?_
          refine r_irem (pc := 93) X dX2_fieldOf_93 (by decide) ?_
          exact e_iret (pc := 94) X hr hf (Nat.le_refl _) (Nat.le_refl _) dX2_fieldOf_94
        refine sw hf (fun e1 hf => ?_) (fun e1 hf => ?_)
        · refine r_lookup (tgt := 71) (pc := 21) X dX2_fieldOf_21 (by decide) (by rw [e1] <;> rfl) (by decide) ?_
          refine r_aload_n (x := some 3) (pc := 71) X dX2_fieldOf_71 0 rfl ?_
          refine r_get (j := 1) (pc := 72) X ce_3 rfl inT2 (by decide) w_73 rfl dX2_fieldOf_72 ?_
          refine r_iload_n (pc := 75) X dX2_fieldOf_75 2 rfl ?_
          refine b_iald (pc := 76) X ce_5 dX2_fieldOf_76 hf (fun j2 hf => ?_)
          exact e_iret (pc := 77) X hr hf (Nat.le_refl _) (Nat.le_refl _) dX2_fieldOf_77
        refine sw hf (fun e2 hf => ?_) (fun e2 hf => ?_)
        · refine r_lookup (tgt := 64) (pc := 21) X dX2_fieldOf_21 (by decide) (by rw [e2] <;> rfl) (by decide) ?_
          refine r_aload_n (x := some 3) (pc := 64) X dX2_fieldOf_64 0 rfl ?_
          refine r_get (j := 0) (pc := 65) X ce_3 rfl inT2 (by decide) w_72 rfl dX2_fieldOf_65 ?_
          refine r_iload_n (pc := 68) X dX2_fieldOf_68 2 rfl ?_
          refine b_iald (pc := 69) X ce_4 dX2_fieldOf_69 hf (fun j3 hf => ?_)
          exact e_iret (pc := 70) X hr hf (Nat.le_refl _) (Nat.le_refl _) dX2_fieldOf_70
        refine sw hf (fun e3 hf => ?_) (fun e3 hf => ?_)
        · refine r_lookup (tgt := 78) (pc := 21) X dX2_fieldOf_21 (by decide) (by rw [e3] <;> rfl) (by decide) ?_
          refine r_aload_n (x := some 3) (pc := 78) X dX2_fieldOf_78 0 rfl ?_
          refine r_get (j := 2) (pc := 79) X ce_3 rfl inT2 (by decide) w_74 rfl dX2_fieldOf_79 ?_
          refine r_iload_n (pc := 82) X dX2_fieldOf_82 2 rfl ?_
          refine b_iald (pc := 83) X ce_6 dX2_fieldOf_83 hf (fun j4 hf => ?_)
          exact e_iret (pc := 84) X hr hf (Nat.le_refl _) (Nat.le_refl _) dX2_fieldOf_84
        · refine r_lookup (off := 74) (tgt := 95) (pc := 21) X dX2_fieldOf_21 (by decide) ((lv_osw e0 (by decide)).trans ((lv_osw e1 (by decide)).trans ((lv_osw e2 (by decide)).trans ((lv_osw e3 (by decide)).trans rfl)))) (by decide) ?_
          refine r_iconst (v := 0) (pc := 95) X dX2_fieldOf_95 (by decide) ?_
          exact e_iret (pc := 96) X hr hf (Nat.le_refl _) (Nat.le_refl _) dX2_fieldOf_96
      · refine r_iconst (v := 0) (pc := 18) X dX2_fieldOf_18 (by decide) ?_
        exact e_iret (pc := 19) X hr hf (Nat.le_refl _) (Nat.le_refl _) dX2_fieldOf_19
/-! f_Reader_place -/
theorem dX4_place_0 : decode cX4_place 0 = .ok (.aload_n 0, 1) := by decide +kernel
theorem dX4_place_1 : decode cX4_place 1 = .ok (.getfield 19, 3) := by decide +kernel
theorem dX4_place_4 : decode cX4_place 4 = .ok (.ireturn, 1) := by decide +kernel
def f_Reader_place (F : Nat) (s : St)  : Option (Int32 × St) :=
  some ((gI s 1538), s)
set_option maxHeartbeats 1000000 in
theorem c_f_Reader_place {F : Nat} {s : St}  {r : Int32} {s' : St} (hf : f_Reader_place F s  = some (r, s')) : CC true yX4_place (Cond.code yX4_place cX4_place 1 (some .int)) 0 0 (fun B => [.ref (B + 24)]) s (fun B => (some (.int r))) s' 0 0 := by
  refine CC.of (fun B => [(0, .ref (B + 24))]) (by decide +kernel) (fun _ => rfl) (fun _ => (by simp [lg_sl, rfB_cat, catI, catL, catR])) (fun Γ D B X hr hin => ?_)
  have X : Cx Γ RX4 cX4_place 1 D B { frames := 0, cells := 0, slots := 0, locals := 0 } := X
  unfold f_Reader_place at hf
  refine r_aload_n (x := some 24) (pc := 0) X dX4_place_0 0 rfl ?_
  refine r_get (j := 2) (pc := 1) X ce_24 rfl inT4 (by decide) w_188 rfl dX4_place_1 ?_
  exact e_iret (pc := 4) X hr hf (Nat.le_refl _) (Nat.le_refl _) dX4_place_4
/-! f_Reader_isSignOf -/
theorem dX4_isSignOf_0 : decode cX4_isSignOf 0 = .ok (.iload_n 0, 1) := by decide +kernel
theorem dX4_isSignOf_1 : decode cX4_isSignOf 1 = .ok (.tableswitch 100 0 4 #[35, 40, 58, 76, 88], 35) := by decide +kernel
theorem dX4_isSignOf_36 : decode cX4_isSignOf 36 = .ok (.iload_n 1, 1) := by decide +kernel
theorem dX4_isSignOf_37 : decode cX4_isSignOf 37 = .ok (.invokestatic 46, 3) := by decide +kernel
theorem dX4_isSignOf_40 : decode cX4_isSignOf 40 = .ok (.ireturn, 1) := by decide +kernel
theorem dX4_isSignOf_41 : decode cX4_isSignOf 41 = .ok (.iload_n 1, 1) := by decide +kernel
theorem dX4_isSignOf_42 : decode cX4_isSignOf 42 = .ok (.bipush 43, 2) := by decide +kernel
theorem dX4_isSignOf_44 : decode cX4_isSignOf 44 = .ok (.if_icmp .eq 9, 3) := by decide +kernel
theorem dX4_isSignOf_47 : decode cX4_isSignOf 47 = .ok (.iload_n 1, 1) := by decide +kernel
theorem dX4_isSignOf_48 : decode cX4_isSignOf 48 = .ok (.bipush 45, 2) := by decide +kernel
theorem dX4_isSignOf_50 : decode cX4_isSignOf 50 = .ok (.if_icmp .ne 7, 3) := by decide +kernel
theorem dX4_isSignOf_53 : decode cX4_isSignOf 53 = .ok (.iconst 1, 1) := by decide +kernel
theorem dX4_isSignOf_54 : decode cX4_isSignOf 54 = .ok (.goto 4, 3) := by decide +kernel
theorem dX4_isSignOf_57 : decode cX4_isSignOf 57 = .ok (.iconst 0, 1) := by decide +kernel
theorem dX4_isSignOf_58 : decode cX4_isSignOf 58 = .ok (.ireturn, 1) := by decide +kernel
theorem dX4_isSignOf_59 : decode cX4_isSignOf 59 = .ok (.iload_n 1, 1) := by decide +kernel
theorem dX4_isSignOf_60 : decode cX4_isSignOf 60 = .ok (.bipush 42, 2) := by decide +kernel
theorem dX4_isSignOf_62 : decode cX4_isSignOf 62 = .ok (.if_icmp .eq 9, 3) := by decide +kernel
theorem dX4_isSignOf_65 : decode cX4_isSignOf 65 = .ok (.iload_n 1, 1) := by decide +kernel
theorem dX4_isSignOf_66 : decode cX4_isSignOf 66 = .ok (.bipush 47, 2) := by decide +kernel
theorem dX4_isSignOf_68 : decode cX4_isSignOf 68 = .ok (.if_icmp .ne 7, 3) := by decide +kernel
theorem dX4_isSignOf_71 : decode cX4_isSignOf 71 = .ok (.iconst 1, 1) := by decide +kernel
theorem dX4_isSignOf_72 : decode cX4_isSignOf 72 = .ok (.goto 4, 3) := by decide +kernel
theorem dX4_isSignOf_75 : decode cX4_isSignOf 75 = .ok (.iconst 0, 1) := by decide +kernel
theorem dX4_isSignOf_76 : decode cX4_isSignOf 76 = .ok (.ireturn, 1) := by decide +kernel
theorem dX4_isSignOf_77 : decode cX4_isSignOf 77 = .ok (.iload_n 1, 1) := by decide +kernel
theorem dX4_isSignOf_78 : decode cX4_isSignOf 78 = .ok (.bipush 124, 2) := by decide +kernel
theorem dX4_isSignOf_80 : decode cX4_isSignOf 80 = .ok (.if_icmp .ne 7, 3) := by decide +kernel
theorem dX4_isSignOf_83 : decode cX4_isSignOf 83 = .ok (.iconst 1, 1) := by decide +kernel
theorem dX4_isSignOf_84 : decode cX4_isSignOf 84 = .ok (.goto 4, 3) := by decide +kernel
theorem dX4_isSignOf_87 : decode cX4_isSignOf 87 = .ok (.iconst 0, 1) := by decide +kernel
theorem dX4_isSignOf_88 : decode cX4_isSignOf 88 = .ok (.ireturn, 1) := by decide +kernel
theorem dX4_isSignOf_89 : decode cX4_isSignOf 89 = .ok (.iload_n 1, 1) := by decide +kernel
theorem dX4_isSignOf_90 : decode cX4_isSignOf 90 = .ok (.bipush 38, 2) := by decide +kernel
theorem dX4_isSignOf_92 : decode cX4_isSignOf 92 = .ok (.if_icmp .ne 7, 3) := by decide +kernel
theorem dX4_isSignOf_95 : decode cX4_isSignOf 95 = .ok (.iconst 1, 1) := by decide +kernel
theorem dX4_isSignOf_96 : decode cX4_isSignOf 96 = .ok (.goto 4, 3) := by decide +kernel
theorem dX4_isSignOf_99 : decode cX4_isSignOf 99 = .ok (.iconst 0, 1) := by decide +kernel
theorem dX4_isSignOf_100 : decode cX4_isSignOf 100 = .ok (.ireturn, 1) := by decide +kernel
theorem dX4_isSignOf_101 : decode cX4_isSignOf 101 = .ok (.iconst 0, 1) := by decide +kernel
theorem dX4_isSignOf_102 : decode cX4_isSignOf 102 = .ok (.ireturn, 1) := by decide +kernel
def f_Reader_isSignOf (F : Nat) (s : St) (p0 : Int32) (p1 : Int32) : Option (Int32 × St) :=
  if p0 = 0 then
    ((f_P_isComparison F s p1).bind fun x1 => (if x1.1 = 0 ∨ x1.1 = 1 then (some (x1.1, x1.2)) else none))
  else if p0 = 1 then
    (if p1 = 43 then
      (some (1, s))
    else
      (if p1 = 45 then
        (some (1, s))
      else
        (some (0, s))))
  else if p0 = 2 then
    (if p1 = 42 then
      (some (1, s))
    else
      (if p1 = 47 then
        (some (1, s))
      else
        (some (0, s))))
  else if p0 = 3 then
    (if p1 = 124 then
      (some (1, s))
    else
      (some (0, s)))
  else if p0 = 4 then
    (if p1 = 38 then
      (some (1, s))
    else
      (some (0, s)))
  else 
    (some (0, s))
set_option maxHeartbeats 1000000 in
theorem c_f_Reader_isSignOf {F : Nat} {s : St} {p0 : Int32} {p1 : Int32} {r : Int32} {s' : St} (hf : f_Reader_isSignOf F s p0 p1 = some (r, s')) : CC true yX4_isSignOf (Cond.code yX4_isSignOf cX4_isSignOf 2 (some .boolean)) 1 20 (fun B => [.int p0, .int p1]) s (fun B => (some (.int r))) s' 0 0 := by
  refine CC.of (fun B => [(0, .int p0), (1, .int p1)]) (by decide +kernel) (fun _ => rfl) (fun _ => (by simp [lg_sl, rfB_cat, catI, catL, catR])) (fun Γ D B X hr hin => ?_)
  have X : Cx Γ RX4 cX4_isSignOf 2 D B { frames := 1, cells := 0, slots := 0, locals := 20 } := X
  unfold f_Reader_isSignOf at hf
  refine r_iload_n (pc := 0) X dX4_isSignOf_0 0 rfl ?_
  refine sw hf (fun e0 hf => ?_) (fun e0 hf => ?_)
  · refine r_tableIn (tgt := 36) (pc := 1) X dX4_isSignOf_1 (by rw [e0] <;> decide) (by rw [e0] <;> decide) (by rw [e0] <;> rfl) (by decide) ?_
    refine r_iload_n (pc := 36) X dX4_isSignOf_36 1 rfl ?_
    refine bnd hf (fun x1 h1 hf => ?_)
    refine r_callSNi (As := [.int p1]) (st := []) (pc := 37) X (c_f_P_isComparison h1) rfl wn_703 w_704 w_36 w_705 hdS_X10_isComparison (by decide) (by decide) (by decide) (Nat.le_of_ble_eq_true rfl) dX4_isSignOf_37 rfl ?_
    refine ifo hf (fun hx hf => ?_)
    exact e_zret (pc := 40) X hr hx hf (Nat.le_refl _) (Nat.le_refl _) dX4_isSignOf_40
  refine sw hf (fun e1 hf => ?_) (fun e1 hf => ?_)
  · refine r_tableIn (tgt := 41) (pc := 1) X dX4_isSignOf_1 (by rw [e1] <;> decide) (by rw [e1] <;> decide) (by rw [e1] <;> rfl) (by decide) ?_
    refine r_iload_n (pc := 41) X dX4_isSignOf_41 1 rfl ?_
    refine r_bipush (v := 43) (pc := 42) X dX4_isSignOf_42 (by decide) ?_
    refine b_icmp_eq (tgt := 53) (pc := 44) X dX4_isSignOf_44 (by decide) hf (fun hf => ?_) (fun hf => ?_)
    · refine r_iconst (v := 1) (pc := 53) X dX4_isSignOf_53 (by decide) ?_
      refine r_goto (tgt := 58) (pc := 54) X dX4_isSignOf_54 (by decide) ?_
      exact e_zret (pc := 58) X hr (by decide) hf (Nat.le_refl _) (Nat.le_refl _) dX4_isSignOf_58
    · refine r_iload_n (pc := 47) X dX4_isSignOf_47 1 rfl ?_
      refine r_bipush (v := 45) (pc := 48) X dX4_isSignOf_48 (by decide) ?_
      refine b_icmp_ne (tgt := 57) (pc := 50) X dX4_isSignOf_50 (by decide) hf (fun hf => ?_) (fun hf => ?_)
      · refine r_iconst (v := 1) (pc := 53) X dX4_isSignOf_53 (by decide) ?_
        refine r_goto (tgt := 58) (pc := 54) X dX4_isSignOf_54 (by decide) ?_
        exact e_zret (pc := 58) X hr (by decide) hf (Nat.le_refl _) (Nat.le_refl _) dX4_isSignOf_58
      · refine r_iconst (v := 0) (pc := 57) X dX4_isSignOf_57 (by decide) ?_
        exact e_zret (pc := 58) X hr (by decide) hf (Nat.le_refl _) (Nat.le_refl _) dX4_isSignOf_58
  refine sw hf (fun e2 hf => ?_) (fun e2 hf => ?_)
  · refine r_tableIn (tgt := 59) (pc := 1) X dX4_isSignOf_1 (by rw [e2] <;> decide) (by rw [e2] <;> decide) (by rw [e2] <;> rfl) (by decide) ?_
    refine r_iload_n (pc := 59) X dX4_isSignOf_59 1 rfl ?_
    refine r_bipush (v := 42) (pc := 60) X dX4_isSignOf_60 (by decide) ?_
    refine b_icmp_eq (tgt := 71) (pc := 62) X dX4_isSignOf_62 (by decide) hf (fun hf => ?_) (fun hf => ?_)
    · refine r_iconst (v := 1) (pc := 71) X dX4_isSignOf_71 (by decide) ?_
      refine r_goto (tgt := 76) (pc := 72) X dX4_isSignOf_72 (by decide) ?_
      exact e_zret (pc := 76) X hr (by decide) hf (Nat.le_refl _) (Nat.le_refl _) dX4_isSignOf_76
    · refine r_iload_n (pc := 65) X dX4_isSignOf_65 1 rfl ?_
      refine r_bipush (v := 47) (pc := 66) X dX4_isSignOf_66 (by decide) ?_
      refine b_icmp_ne (tgt := 75) (pc := 68) X dX4_isSignOf_68 (by decide) hf (fun hf => ?_) (fun hf => ?_)
      · refine r_iconst (v := 1) (pc := 71) X dX4_isSignOf_71 (by decide) ?_
        refine r_goto (tgt := 76) (pc := 72) X dX4_isSignOf_72 (by decide) ?_
        exact e_zret (pc := 76) X hr (by decide) hf (Nat.le_refl _) (Nat.le_refl _) dX4_isSignOf_76
      · refine r_iconst (v := 0) (pc := 75) X dX4_isSignOf_75 (by decide) ?_
        exact e_zret (pc := 76) X hr (by decide) hf (Nat.le_refl _) (Nat.le_refl _) dX4_isSignOf_76
  refine sw hf (fun e3 hf => ?_) (fun e3 hf => ?_)
  · refine r_tableIn (tgt := 77) (pc := 1) X dX4_isSignOf_1 (by rw [e3] <;> decide) (by rw [e3] <;> decide) (by rw [e3] <;> rfl) (by decide) ?_
    refine r_iload_n (pc := 77) X dX4_isSignOf_77 1 rfl ?_
    refine r_bipush (v := 124) (pc := 78) X dX4_isSignOf_78 (by decide) ?_
    refine b_icmp_ne (tgt := 87) (pc := 80) X dX4_isSignOf_80 (by decide) hf (fun hf => ?_) (fun hf => ?_)
    · refine r_iconst (v := 1) (pc := 83) X dX4_isSignOf_83 (by decide) ?_
      refine r_goto (tgt := 88) (pc := 84) X dX4_isSignOf_84 (by decide) ?_
      exact e_zret (pc := 88) X hr (by decide) hf (Nat.le_refl _) (Nat.le_refl _) dX4_isSignOf_88
    · refine r_iconst (v := 0) (pc := 87) X dX4_isSignOf_87 (by decide) ?_
      exact e_zret (pc := 88) X hr (by decide) hf (Nat.le_refl _) (Nat.le_refl _) dX4_isSignOf_88
  refine sw hf (fun e4 hf => ?_) (fun e4 hf => ?_)
  · refine r_tableIn (tgt := 89) (pc := 1) X dX4_isSignOf_1 (by rw [e4] <;> decide) (by rw [e4] <;> decide) (by rw [e4] <;> rfl) (by decide) ?_
    refine r_iload_n (pc := 89) X dX4_isSignOf_89 1 rfl ?_
    refine r_bipush (v := 38) (pc := 90) X dX4_isSignOf_90 (by decide) ?_
    refine b_icmp_ne (tgt := 99) (pc := 92) X dX4_isSignOf_92 (by decide) hf (fun hf => ?_) (fun hf => ?_)
    · refine r_iconst (v := 1) (pc := 95) X dX4_isSignOf_95 (by decide) ?_
      refine r_goto (tgt := 100) (pc := 96) X dX4_isSignOf_96 (by decide) ?_
      exact e_zret (pc := 100) X hr (by decide) hf (Nat.le_refl _) (Nat.le_refl _) dX4_isSignOf_100
    · refine r_iconst (v := 0) (pc := 99) X dX4_isSignOf_99 (by decide) ?_
      exact e_zret (pc := 100) X hr (by decide) hf (Nat.le_refl _) (Nat.le_refl _) dX4_isSignOf_100
  · refine r_tableOut (tgt := 101) (pc := 1) X dX4_isSignOf_1 (by have q0 := lv_neT e0 (a := 0) (by decide); have q1 := lv_neT e1 (a := 1) (by decide); have q2 := lv_neT e2 (a := 2) (by decide); have q3 := lv_neT e3 (a := 3) (by decide); have q4 := lv_neT e4 (a := 4) (by decide); omega) (by decide) ?_
    refine r_iconst (v := 0) (pc := 101) X dX4_isSignOf_101 (by decide) ?_
    exact e_zret (pc := 102) X hr (by decide) hf (Nat.le_refl _) (Nat.le_refl _) dX4_isSignOf_102
/-! f_Reader_closed -/
theorem dX4_closed_0 : decode cX4_closed 0 = .ok (.aload_n 1, 1) := by decide +kernel
theorem dX4_closed_1 : decode cX4_closed 1 = .ok (.ifnull 12, 3) := by decide +kernel
theorem dX4_closed_4 : decode cX4_closed 4 = .ok (.aload_n 0, 1) := by decide +kernel
theorem dX4_closed_5 : decode cX4_closed 5 = .ok (.invokevirtual 38, 3) := by decide +kernel
theorem dX4_closed_8 : decode cX4_closed 8 = .ok (.bipush 41, 2) := by decide +kernel
theorem dX4_closed_10 : decode cX4_closed 10 = .ok (.if_icmp .eq 5, 3) := by decide +kernel
theorem dX4_closed_13 : decode cX4_closed 13 = .ok (.aconst_null, 1) := by decide +kernel
theorem dX4_closed_14 : decode cX4_closed 14 = .ok (.areturn, 1) := by decide +kernel
theorem dX4_closed_15 : decode cX4_closed 15 = .ok (.aload_n 0, 1) := by decide +kernel
theorem dX4_closed_16 : decode cX4_closed 16 = .ok (.dup, 1) := by decide +kernel
theorem dX4_closed_17 : decode cX4_closed 17 = .ok (.getfield 19, 3) := by decide +kernel
theorem dX4_closed_20 : decode cX4_closed 20 = .ok (.iconst 1, 1) := by decide +kernel
theorem dX4_closed_21 : decode cX4_closed 21 = .ok (.iadd, 1) := by decide +kernel
theorem dX4_closed_22 : decode cX4_closed 22 = .ok (.putfield 19, 3) := by decide +kernel
theorem dX4_closed_25 : decode cX4_closed 25 = .ok (.aload_n 1, 1) := by decide +kernel
theorem dX4_closed_26 : decode cX4_closed 26 = .ok (.areturn, 1) := by decide +kernel
def f_Reader_closed (F : Nat) (s : St) (p1 : Option Nat) : Option (Option Nat × St) :=
  if p1 = none then
    (some (none, s))
  else
    ((f_Reader_here F s).bind fun x1 => (if x1.1 = 41 then
      (lt (sI x1.2 1538 ((gI x1.2 1538) + 1)) fun s2 => (some (p1, s2)))
    else
      (some (none, x1.2))))
set_option maxHeartbeats 1000000 in
theorem c_f_Reader_closed {F : Nat} {s : St} {p1 : Option Nat} {r : Option Nat} {s' : St} (hf : f_Reader_closed F s p1 = some (r, s')) : CC true yX4_closed (Cond.code yX4_closed cX4_closed 2 (some (.object "Pagerloom$Node"))) 1 20 (fun B => [.ref (B + 24), rfB B p1]) s (fun B => (some (rfB B r))) s' 0 0 := by
  refine CC.of (fun B => [(0, .ref (B + 24)), (1, rfB B p1)]) (by decide +kernel) (fun _ => (by simp [lv_args, rfB_cat, catI, catL, catR])) (fun _ => (by simp [lg_sl, rfB_cat, catI, catL, catR])) (fun Γ D B X hr hin => ?_)
  have X : Cx Γ RX4 cX4_closed 2 D B { frames := 1, cells := 0, slots := 0, locals := 20 } := X
  unfold f_Reader_closed at hf
  refine r_aload_n (pc := 0) X dX4_closed_0 1 rfl ?_
  refine b_ifnull (tgt := 13) (pc := 1) X dX4_closed_1 (by decide) hf (fun hf => ?_) (fun hf => ?_)
  · refine r_aconst_null (pc := 13) X dX4_closed_13 ?_
    exact e_aret (pc := 14) X hr hf (Nat.le_refl _) (Nat.le_refl _) dX4_closed_14
  · refine r_aload_n (x := some 24) (pc := 4) X dX4_closed_4 0 rfl ?_
    refine bnd hf (fun x1 h1 hf => ?_)
    refine r_callVi (As := []) (st := []) (pc := 5) X (c_f_Reader_here h1) rfl w_644 w_646 w_14 w_41 w_647 hdV_X4_here (Rc.s rfl ce_24) (by decide) (by decide) (by decide) (Nat.le_of_ble_eq_true rfl) dX4_closed_5 rfl ?_
    refine r_bipush (v := 41) (pc := 8) X dX4_closed_8 (by decide) ?_
    refine b_icmp_eq (tgt := 15) (pc := 10) X dX4_closed_10 (by decide) hf (fun hf => ?_) (fun hf => ?_)
    · refine r_aload_n (x := some 24) (pc := 15) X dX4_closed_15 0 rfl ?_
      refine r_dup (pc := 16) X dX4_closed_16 rfl ?_
      refine r_get (j := 2) (pc := 17) X ce_24 rfl inT4 (by decide) w_188 rfl dX4_closed_17 ?_
      refine r_iconst (v := 1) (pc := 20) X dX4_closed_20 (by decide) ?_
      refine r_iadd (pc := 21) X dX4_closed_21 ?_
      refine b_put (j := 2) (pc := 22) X ce_24 rfl inT4 tyX4 tyX4_ok nmX4 (by decide) w_188 rfl (tyX4_ok 2 (by decide)) rfl rfl (Nat.le_of_ble_eq_true rfl) (cp_1538 _) rfl rfl dX4_closed_22 hf (fun s2 hf => ?_)
      refine r_aload_n (pc := 25) X dX4_closed_25 1 rfl ?_
      exact e_aret (pc := 26) X hr hf (Nat.le_refl _) (Nat.le_refl _) dX4_closed_26
    · refine r_aconst_null (pc := 13) X dX4_closed_13 ?_
      exact e_aret (pc := 14) X hr hf (Nat.le_refl _) (Nat.le_refl _) dX4_closed_14
/-! f_Rota_turnOff -/
theorem dX5_turnOff_0 : decode cX5_turnOff 0 = .ok (.iload_n 2, 1) := by decide +kernel
theorem dX5_turnOff_1 : decode cX5_turnOff 1 = .ok (.iconst 0, 1) := by decide +kernel
theorem dX5_turnOff_2 : decode cX5_turnOff 2 = .ok (.bipush 125, 2) := by decide +kernel
theorem dX5_turnOff_4 : decode cX5_turnOff 4 = .ok (.invokestatic 40, 3) := by decide +kernel
theorem dX5_turnOff_7 : decode cX5_turnOff 7 = .ok (.ifCond .eq 15, 3) := by decide +kernel
theorem dX5_turnOff_10 : decode cX5_turnOff 10 = .ok (.aload_n 0, 1) := by decide +kernel
theorem dX5_turnOff_11 : decode cX5_turnOff 11 = .ok (.getfield 19, 3) := by decide +kernel
theorem dX5_turnOff_14 : decode cX5_turnOff 14 = .ok (.iload_n 2, 1) := by decide +kernel
theorem dX5_turnOff_15 : decode cX5_turnOff 15 = .ok (.dup2, 1) := by decide +kernel
theorem dX5_turnOff_16 : decode cX5_turnOff 16 = .ok (.iaload, 1) := by decide +kernel
theorem dX5_turnOff_17 : decode cX5_turnOff 17 = .ok (.iconst 1, 1) := by decide +kernel
theorem dX5_turnOff_18 : decode cX5_turnOff 18 = .ok (.iload_n 1, 1) := by decide +kernel
theorem dX5_turnOff_19 : decode cX5_turnOff 19 = .ok (.ishl, 1) := by decide +kernel
theorem dX5_turnOff_20 : decode cX5_turnOff 20 = .ok (.ixor, 1) := by decide +kernel
theorem dX5_turnOff_21 : decode cX5_turnOff 21 = .ok (.iastore, 1) := by decide +kernel
theorem dX5_turnOff_22 : decode cX5_turnOff 22 = .ok (.return_, 1) := by decide +kernel
def f_Rota_turnOff (F : Nat) (s : St) (p1 : Int32) (p2 : Int32) : Option (St) :=
  (f_P_isIn F s p2 0 125).bind fun x1 => (if x1.1 = 0 then
    (some x1.2)
  else
    ((ix 126 p2).bind fun j2 => ((ix 126 p2).bind fun j3 => (lt (sA x1.2 14 j3 ((gA x1.2 14 j2) ^^^ ((1 : Int32) <<< (p1 &&& 31)))) fun s4 => (some s4)))))
set_option maxHeartbeats 1000000 in
theorem c_f_Rota_turnOff {F : Nat} {s : St} {p1 : Int32} {p2 : Int32} {s' : St} (hf : f_Rota_turnOff F s p1 p2 = some s') : CC true yX5_turnOff (Cond.code yX5_turnOff cX5_turnOff 3 none) 1 22 (fun B => [.ref (B + 12), .int p1, .int p2]) s (fun B => none) s' 0 0 := by
  refine CC.of (fun B => [(0, .ref (B + 12)), (1, .int p1), (2, .int p2)]) (by decide +kernel) (fun _ => rfl) (fun _ => (by simp [lg_sl, rfB_cat, catI, catL, catR])) (fun Γ D B X hr hin => ?_)
  have X : Cx Γ RX5 cX5_turnOff 3 D B { frames := 1, cells := 0, slots := 0, locals := 22 } := X
  unfold f_Rota_turnOff at hf
  refine r_iload_n (pc := 0) X dX5_turnOff_0 2 rfl ?_
  refine r_iconst (v := 0) (pc := 1) X dX5_turnOff_1 (by decide) ?_
  refine r_bipush (v := 125) (pc := 2) X dX5_turnOff_2 (by decide) ?_
  refine bnd hf (fun x1 h1 hf => ?_)
  refine r_callSNi (As := [.int p2, .int 0, .int 125]) (st := []) (pc := 4) X (c_f_P_isIn h1) rfl wn_341 w_342 w_36 w_343 hdS_X10_isIn (by decide) (by decide) (by decide) (Nat.le_of_ble_eq_true rfl) dX5_turnOff_4 rfl ?_
  refine b_if_eq (tgt := 22) (pc := 7) X dX5_turnOff_7 (by decide) hf (fun hf => ?_) (fun hf => ?_)
  · exact e_vret (pc := 22) X hr hf (Nat.le_refl _) (Nat.le_refl _) dX5_turnOff_22
  · refine r_aload_n (x := some 12) (pc := 10) X dX5_turnOff_10 0 rfl ?_
    refine r_get (j := 2) (pc := 11) X ce_12 rfl inT5 (by decide) w_123 rfl dX5_turnOff_11 ?_
    refine r_iload_n (pc := 14) X dX5_turnOff_14 2 rfl ?_
    refine r_dup2 (pc := 15) X dX5_turnOff_15 rfl rfl ?_
    refine b_iald (pc := 16) X ce_14 dX5_turnOff_16 hf (fun j2 hf => ?_)
    refine r_iconst (v := 1) (pc := 17) X dX5_turnOff_17 (by decide) ?_
    refine r_iload_n (pc := 18) X dX5_turnOff_18 1 rfl ?_
    refine r_ishl (pc := 19) X dX5_turnOff_19 ?_
    refine r_ixor (pc := 20) X dX5_turnOff_20 ?_
    refine b_iast (pc := 21) X ce_14 (fun _ => ca_14 _ _) dX5_turnOff_21 hf (fun j3 s4 hf => ?_)
    exact e_vret (pc := 22) X hr hf (Nat.le_refl _) (Nat.le_refl _) dX5_turnOff_22
/-! f_Rota_give -/
theorem dX5_give_0 : decode cX5_give 0 = .ok (.iload_n 1, 1) := by decide +kernel
theorem dX5_give_1 : decode cX5_give 1 = .ok (.iconst 0, 1) := by decide +kernel
theorem dX5_give_2 : decode cX5_give 2 = .ok (.bipush 125, 2) := by decide +kernel
theorem dX5_give_4 : decode cX5_give 4 = .ok (.invokestatic 40, 3) := by decide +kernel
theorem dX5_give_7 : decode cX5_give 7 = .ok (.ifCond .eq 10, 3) := by decide +kernel
theorem dX5_give_10 : decode cX5_give 10 = .ok (.aload_n 0, 1) := by decide +kernel
theorem dX5_give_11 : decode cX5_give 11 = .ok (.getfield 15, 3) := by decide +kernel
theorem dX5_give_14 : decode cX5_give 14 = .ok (.iload_n 1, 1) := by decide +kernel
theorem dX5_give_15 : decode cX5_give 15 = .ok (.iload_n 2, 1) := by decide +kernel
theorem dX5_give_16 : decode cX5_give 16 = .ok (.iastore, 1) := by decide +kernel
theorem dX5_give_17 : decode cX5_give 17 = .ok (.return_, 1) := by decide +kernel
def f_Rota_give (F : Nat) (s : St) (p1 : Int32) (p2 : Int32) : Option (St) :=
  (f_P_isIn F s p1 0 125).bind fun x1 => (if x1.1 = 0 then
    (some x1.2)
  else
    ((ix 126 p1).bind fun j2 => (lt (sA x1.2 13 j2 p2) fun s3 => (some s3))))
set_option maxHeartbeats 1000000 in
theorem c_f_Rota_give {F : Nat} {s : St} {p1 : Int32} {p2 : Int32} {s' : St} (hf : f_Rota_give F s p1 p2 = some s') : CC true yX5_give (Cond.code yX5_give cX5_give 3 none) 1 22 (fun B => [.ref (B + 12), .int p1, .int p2]) s (fun B => none) s' 0 0 := by
  refine CC.of (fun B => [(0, .ref (B + 12)), (1, .int p1), (2, .int p2)]) (by decide +kernel) (fun _ => rfl) (fun _ => (by simp [lg_sl, rfB_cat, catI, catL, catR])) (fun Γ D B X hr hin => ?_)
  have X : Cx Γ RX5 cX5_give 3 D B { frames := 1, cells := 0, slots := 0, locals := 22 } := X
  unfold f_Rota_give at hf
  refine r_iload_n (pc := 0) X dX5_give_0 1 rfl ?_
  refine r_iconst (v := 0) (pc := 1) X dX5_give_1 (by decide) ?_
  refine r_bipush (v := 125) (pc := 2) X dX5_give_2 (by decide) ?_
  refine bnd hf (fun x1 h1 hf => ?_)
  refine r_callSNi (As := [.int p1, .int 0, .int 125]) (st := []) (pc := 4) X (c_f_P_isIn h1) rfl wn_341 w_342 w_36 w_343 hdS_X10_isIn (by decide) (by decide) (by decide) (Nat.le_of_ble_eq_true rfl) dX5_give_4 rfl ?_
  refine b_if_eq (tgt := 17) (pc := 7) X dX5_give_7 (by decide) hf (fun hf => ?_) (fun hf => ?_)
  · exact e_vret (pc := 17) X hr hf (Nat.le_refl _) (Nat.le_refl _) dX5_give_17
  · refine r_aload_n (x := some 12) (pc := 10) X dX5_give_10 0 rfl ?_
    refine r_get (j := 1) (pc := 11) X ce_12 rfl inT5 (by decide) w_122 rfl dX5_give_11 ?_
    refine r_iload_n (pc := 14) X dX5_give_14 1 rfl ?_
    refine r_iload_n (pc := 15) X dX5_give_15 2 rfl ?_
    refine b_iast (pc := 16) X ce_13 (fun _ => ca_13 _ _) dX5_give_16 hf (fun j2 s3 hf => ?_)
    exact e_vret (pc := 17) X hr hf (Nat.le_refl _) (Nat.le_refl _) dX5_give_17
/-! f_Rota_nightsOf -/
theorem dX5_nightsOf_0 : decode cX5_nightsOf 0 = .ok (.iconst 0, 1) := by decide +kernel
theorem dX5_nightsOf_1 : decode cX5_nightsOf 1 = .ok (.istore_n 2, 1) := by decide +kernel
theorem dX5_nightsOf_2 : decode cX5_nightsOf 2 = .ok (.iconst 0, 1) := by decide +kernel
theorem dX5_nightsOf_3 : decode cX5_nightsOf 3 = .ok (.istore_n 3, 1) := by decide +kernel
theorem dX5_nightsOf_4 : decode cX5_nightsOf 4 = .ok (.iload_n 3, 1) := by decide +kernel
theorem dX5_nightsOf_5 : decode cX5_nightsOf 5 = .ok (.bipush 126, 2) := by decide +kernel
theorem dX5_nightsOf_7 : decode cX5_nightsOf 7 = .ok (.if_icmp .ge 34, 3) := by decide +kernel
theorem dX5_nightsOf_10 : decode cX5_nightsOf 10 = .ok (.iload_n 2, 1) := by decide +kernel
theorem dX5_nightsOf_11 : decode cX5_nightsOf 11 = .ok (.iload_n 3, 1) := by decide +kernel
theorem dX5_nightsOf_12 : decode cX5_nightsOf 12 = .ok (.invokestatic 55, 3) := by decide +kernel
theorem dX5_nightsOf_15 : decode cX5_nightsOf 15 = .ok (.ifCond .eq 17, 3) := by decide +kernel
theorem dX5_nightsOf_18 : decode cX5_nightsOf 18 = .ok (.aload_n 0, 1) := by decide +kernel
theorem dX5_nightsOf_19 : decode cX5_nightsOf 19 = .ok (.getfield 22, 3) := by decide +kernel
theorem dX5_nightsOf_22 : decode cX5_nightsOf 22 = .ok (.iload_n 3, 1) := by decide +kernel
theorem dX5_nightsOf_23 : decode cX5_nightsOf 23 = .ok (.iaload, 1) := by decide +kernel
theorem dX5_nightsOf_24 : decode cX5_nightsOf 24 = .ok (.iload_n 1, 1) := by decide +kernel
theorem dX5_nightsOf_25 : decode cX5_nightsOf 25 = .ok (.if_icmp .ne 7, 3) := by decide +kernel
theorem dX5_nightsOf_28 : decode cX5_nightsOf 28 = .ok (.iconst 1, 1) := by decide +kernel
theorem dX5_nightsOf_29 : decode cX5_nightsOf 29 = .ok (.goto 4, 3) := by decide +kernel
theorem dX5_nightsOf_32 : decode cX5_nightsOf 32 = .ok (.iconst 0, 1) := by decide +kernel
theorem dX5_nightsOf_33 : decode cX5_nightsOf 33 = .ok (.iadd, 1) := by decide +kernel
theorem dX5_nightsOf_34 : decode cX5_nightsOf 34 = .ok (.istore_n 2, 1) := by decide +kernel
theorem dX5_nightsOf_35 : decode cX5_nightsOf 35 = .ok (.iinc 3 1, 3) := by decide +kernel
theorem dX5_nightsOf_38 : decode cX5_nightsOf 38 = .ok (.goto (-34), 3) := by decide +kernel
theorem dX5_nightsOf_41 : decode cX5_nightsOf 41 = .ok (.iload_n 2, 1) := by decide +kernel
theorem dX5_nightsOf_42 : decode cX5_nightsOf 42 = .ok (.ireturn, 1) := by decide +kernel
def f_Rota_nightsOf_b4 (F : Nat) : Nat → St → Int32 → Int32 → Int32 → Option (Int32 × St)
  | 0, _, _, _, _ => none
  | n + 1, s, l1, l2, l3 =>
    if 126 ≤ l3 then
      (some (l2, s))
    else
      ((f_P_isNight F s l3).bind fun x1 => (if x1.1 = 0 then
        (f_Rota_nightsOf_b4 F n x1.2 l1 (l2 + 0) (l3 + 1))
      else
        ((ix 126 l3).bind fun j2 => (if (gA x1.2 15 j2) = l1 then
          (f_Rota_nightsOf_b4 F n x1.2 l1 (l2 + 1) (l3 + 1))
        else
          (f_Rota_nightsOf_b4 F n x1.2 l1 (l2 + 0) (l3 + 1))))))
def f_Rota_nightsOf (F : Nat) (s : St) (p1 : Int32) : Option (Int32 × St) :=
  f_Rota_nightsOf_b4 F F s p1 0 0
set_option maxHeartbeats 1000000 in
theorem c_f_Rota_nightsOf_b4 {F : Nat} {Γ : Ga} {D : DD} {B : Nat} {r : Int32} {s' : St} (X : Cx Γ RX5 cX5_nightsOf 4 D B { frames := 1, cells := 0, slots := 0, locals := 20 }) (hr : (Gme Γ).sig.returnType = (some .int)) : ∀ (n : Nat) {s : St} {l1 : Int32} {l2 : Int32} {l3 : Int32}, f_Rota_nightsOf_b4 F n s l1 l2 l3 = some (r, s') → V Γ D B true 4 (QM Γ D B true s' (some (.int r)) 0 0) 0 0 s 4 [(0, .ref (B + 12)), (1, .int l1), (2, .int l2), (3, .int l3)] [] := by
  intro n
  induction n with
  | zero => intro s l1 l2 l3 hf; rw [f_Rota_nightsOf_b4] at hf; cases hf
  | succ n ih =>
    intro s l1 l2 l3 hf
    rw [f_Rota_nightsOf_b4] at hf
    refine r_iload_n (pc := 4) X dX5_nightsOf_4 3 rfl ?_
    refine r_bipush (v := 126) (pc := 5) X dX5_nightsOf_5 (by decide) ?_
    refine b_icmp_ge (tgt := 41) (pc := 7) X dX5_nightsOf_7 (by decide) hf (fun hf => ?_) (fun hf => ?_)
    · refine r_iload_n (pc := 41) X dX5_nightsOf_41 2 rfl ?_
      exact e_iret (pc := 42) X hr hf (Nat.le_refl _) (Nat.le_refl _) dX5_nightsOf_42
    · refine r_iload_n (pc := 10) X dX5_nightsOf_10 2 rfl ?_
      refine r_iload_n (pc := 11) X dX5_nightsOf_11 3 rfl ?_
      refine bnd hf (fun x1 h1 hf => ?_)
      refine r_callSNi (As := [.int l3]) (st := [.int l2]) (pc := 12) X (c_f_P_isNight h1) rfl wn_344 w_345 w_36 w_346 hdS_X10_isNight (by decide) (by decide) (by decide) (Nat.le_of_ble_eq_true rfl) dX5_nightsOf_12 rfl ?_
      refine b_if_eq (tgt := 32) (pc := 15) X dX5_nightsOf_15 (by decide) hf (fun hf => ?_) (fun hf => ?_)
      · refine r_iconst (v := 0) (pc := 32) X dX5_nightsOf_32 (by decide) ?_
        refine r_iadd (pc := 33) X dX5_nightsOf_33 ?_
        refine r_istore_n (pc := 34) (lv' := [(0, .ref (B + 12)), (1, .int l1), (2, .int (l2 + 0)), (3, .int l3)]) X dX5_nightsOf_34 (by decide) [1, 2, 0, 3] rfl ?_
        refine r_iinc (v := l3 + 1) (lv' := [(0, .ref (B + 12)), (1, .int l1), (2, .int (l2 + 0)), (3, .int (l3 + 1))]) (pc := 35) X dX5_nightsOf_35 3 rfl rfl (by decide) [1, 2, 3, 0] rfl ?_
        refine r_goto (tgt := 4) (pc := 38) X dX5_nightsOf_38 (by decide) ?_
        exact ih hf
      · refine r_aload_n (x := some 12) (pc := 18) X dX5_nightsOf_18 0 rfl ?_
        refine r_get (j := 3) (pc := 19) X ce_12 rfl inT5 (by decide) w_124 rfl dX5_nightsOf_19 ?_
        refine r_iload_n (pc := 22) X dX5_nightsOf_22 3 rfl ?_
        refine b_iald (pc := 23) X ce_15 dX5_nightsOf_23 hf (fun j2 hf => ?_)
        refine r_iload_n (pc := 24) X dX5_nightsOf_24 1 rfl ?_
        refine b_icmp_ne (tgt := 32) (pc := 25) X dX5_nightsOf_25 (by decide) hf (fun hf => ?_) (fun hf => ?_)
        · refine r_iconst (v := 1) (pc := 28) X dX5_nightsOf_28 (by decide) ?_
          refine r_goto (tgt := 33) (pc := 29) X dX5_nightsOf_29 (by decide) ?_
          refine r_iadd (pc := 33) X dX5_nightsOf_33 ?_
          refine r_istore_n (pc := 34) (lv' := [(0, .ref (B + 12)), (1, .int l1), (2, .int (l2 + 1)), (3, .int l3)]) X dX5_nightsOf_34 (by decide) [1, 2, 0, 3] rfl ?_
          refine r_iinc (v := l3 + 1) (lv' := [(0, .ref (B + 12)), (1, .int l1), (2, .int (l2 + 1)), (3, .int (l3 + 1))]) (pc := 35) X dX5_nightsOf_35 3 rfl rfl (by decide) [1, 2, 3, 0] rfl ?_
          refine r_goto (tgt := 4) (pc := 38) X dX5_nightsOf_38 (by decide) ?_
          exact ih hf
        · refine r_iconst (v := 0) (pc := 32) X dX5_nightsOf_32 (by decide) ?_
          refine r_iadd (pc := 33) X dX5_nightsOf_33 ?_
          refine r_istore_n (pc := 34) (lv' := [(0, .ref (B + 12)), (1, .int l1), (2, .int (l2 + 0)), (3, .int l3)]) X dX5_nightsOf_34 (by decide) [1, 2, 0, 3] rfl ?_
          refine r_iinc (v := l3 + 1) (lv' := [(0, .ref (B + 12)), (1, .int l1), (2, .int (l2 + 0)), (3, .int (l3 + 1))]) (pc := 35) X dX5_nightsOf_35 3 rfl rfl (by decide) [1, 2, 3, 0] rfl ?_
          refine r_goto (tgt := 4) (pc := 38) X dX5_nightsOf_38 (by decide) ?_
          exact ih hf
set_option maxHeartbeats 1000000 in
theorem c_f_Rota_nightsOf {F : Nat} {s : St} {p1 : Int32} {r : Int32} {s' : St} (hf : f_Rota_nightsOf F s p1 = some (r, s')) : CC true yX5_nightsOf (Cond.code yX5_nightsOf cX5_nightsOf 4 (some .int)) 1 20 (fun B => [.ref (B + 12), .int p1]) s (fun B => (some (.int r))) s' 0 0 := by
  refine CC.of (fun B => [(0, .ref (B + 12)), (1, .int p1)]) (by decide +kernel) (fun _ => rfl) (fun _ => (by simp [lg_sl, rfB_cat, catI, catL, catR])) (fun Γ D B X hr hin => ?_)
  have X : Cx Γ RX5 cX5_nightsOf 4 D B { frames := 1, cells := 0, slots := 0, locals := 20 } := X
  unfold f_Rota_nightsOf at hf
  refine r_iconst (v := 0) (pc := 0) X dX5_nightsOf_0 (by decide) ?_
  refine r_istore_n (pc := 1) (lv' := [(0, .ref (B + 12)), (1, .int p1), (2, .int 0)]) X dX5_nightsOf_1 (by decide) [1, 2, 0] rfl ?_
  refine r_iconst (v := 0) (pc := 2) X dX5_nightsOf_2 (by decide) ?_
  refine r_istore_n (pc := 3) (lv' := [(0, .ref (B + 12)), (1, .int p1), (2, .int 0), (3, .int 0)]) X dX5_nightsOf_3 (by decide) [1, 2, 3, 0] rfl ?_
  exact c_f_Rota_nightsOf_b4 X hr _ hf
/-! f_Rota_debtsOf -/
theorem dX5_debtsOf_0 : decode cX5_debtsOf 0 = .ok (.iconst 0, 1) := by decide +kernel
theorem dX5_debtsOf_1 : decode cX5_debtsOf 1 = .ok (.istore_n 3, 1) := by decide +kernel
theorem dX5_debtsOf_2 : decode cX5_debtsOf 2 = .ok (.iconst 0, 1) := by decide +kernel
theorem dX5_debtsOf_3 : decode cX5_debtsOf 3 = .ok (.istore 4, 2) := by decide +kernel
theorem dX5_debtsOf_5 : decode cX5_debtsOf 5 = .ok (.iload 4, 2) := by decide +kernel
theorem dX5_debtsOf_7 : decode cX5_debtsOf 7 = .ok (.aload_n 0, 1) := by decide +kernel
theorem dX5_debtsOf_8 : decode cX5_debtsOf 8 = .ok (.getfield 31, 3) := by decide +kernel
theorem dX5_debtsOf_11 : decode cX5_debtsOf 11 = .ok (.if_icmp .ge 49, 3) := by decide +kernel
theorem dX5_debtsOf_14 : decode cX5_debtsOf 14 = .ok (.iload 4, 2) := by decide +kernel
theorem dX5_debtsOf_16 : decode cX5_debtsOf 16 = .ok (.aload_n 0, 1) := by decide +kernel
theorem dX5_debtsOf_17 : decode cX5_debtsOf 17 = .ok (.getfield 25, 3) := by decide +kernel
theorem dX5_debtsOf_20 : decode cX5_debtsOf 20 = .ok (.arraylength, 1) := by decide +kernel
theorem dX5_debtsOf_21 : decode cX5_debtsOf 21 = .ok (.if_icmp .ge 39, 3) := by decide +kernel
theorem dX5_debtsOf_24 : decode cX5_debtsOf 24 = .ok (.iload_n 3, 1) := by decide +kernel
theorem dX5_debtsOf_25 : decode cX5_debtsOf 25 = .ok (.aload_n 0, 1) := by decide +kernel
theorem dX5_debtsOf_26 : decode cX5_debtsOf 26 = .ok (.getfield 25, 3) := by decide +kernel
theorem dX5_debtsOf_29 : decode cX5_debtsOf 29 = .ok (.iload 4, 2) := by decide +kernel
theorem dX5_debtsOf_31 : decode cX5_debtsOf 31 = .ok (.iaload, 1) := by decide +kernel
theorem dX5_debtsOf_32 : decode cX5_debtsOf 32 = .ok (.iload_n 1, 1) := by decide +kernel
theorem dX5_debtsOf_33 : decode cX5_debtsOf 33 = .ok (.if_icmp .ne 18, 3) := by decide +kernel
theorem dX5_debtsOf_36 : decode cX5_debtsOf 36 = .ok (.aload_n 0, 1) := by decide +kernel
theorem dX5_debtsOf_37 : decode cX5_debtsOf 37 = .ok (.getfield 28, 3) := by decide +kernel
theorem dX5_debtsOf_40 : decode cX5_debtsOf 40 = .ok (.iload 4, 2) := by decide +kernel
theorem dX5_debtsOf_42 : decode cX5_debtsOf 42 = .ok (.iaload, 1) := by decide +kernel
theorem dX5_debtsOf_43 : decode cX5_debtsOf 43 = .ok (.iload_n 2, 1) := by decide +kernel
theorem dX5_debtsOf_44 : decode cX5_debtsOf 44 = .ok (.if_icmp .ne 7, 3) := by decide +kernel
theorem dX5_debtsOf_47 : decode cX5_debtsOf 47 = .ok (.iconst 1, 1) := by decide +kernel
theorem dX5_debtsOf_48 : decode cX5_debtsOf 48 = .ok (.goto 4, 3) := by decide +kernel
theorem dX5_debtsOf_51 : decode cX5_debtsOf 51 = .ok (.iconst 0, 1) := by decide +kernel
theorem dX5_debtsOf_52 : decode cX5_debtsOf 52 = .ok (.iadd, 1) := by decide +kernel
theorem dX5_debtsOf_53 : decode cX5_debtsOf 53 = .ok (.istore_n 3, 1) := by decide +kernel
theorem dX5_debtsOf_54 : decode cX5_debtsOf 54 = .ok (.iinc 4 1, 3) := by decide +kernel
theorem dX5_debtsOf_57 : decode cX5_debtsOf 57 = .ok (.goto (-52), 3) := by decide +kernel
theorem dX5_debtsOf_60 : decode cX5_debtsOf 60 = .ok (.iload_n 3, 1) := by decide +kernel
theorem dX5_debtsOf_61 : decode cX5_debtsOf 61 = .ok (.ireturn, 1) := by decide +kernel
def f_Rota_debtsOf_b5 (F : Nat) : Nat → St → Int32 → Int32 → Int32 → Int32 → Option (Int32 × St)
  | 0, _, _, _, _, _ => none
  | n + 1, s, l1, l2, l3, l4 =>
    if (gI s 774) ≤ l4 then
      (some (l3, s))
    else
      (if 4000 ≤ l4 then
        (some (l3, s))
      else
        ((ix 4000 l4).bind fun j1 => (if (gA s 16 j1) = l1 then
          ((ix 4000 l4).bind fun j2 => (if (gA s 17 j2) = l2 then
            (f_Rota_debtsOf_b5 F n s l1 l2 (l3 + 1) (l4 + 1))
          else
            (f_Rota_debtsOf_b5 F n s l1 l2 (l3 + 0) (l4 + 1))))
        else
          (f_Rota_debtsOf_b5 F n s l1 l2 (l3 + 0) (l4 + 1)))))
def f_Rota_debtsOf (F : Nat) (s : St) (p1 : Int32) (p2 : Int32) : Option (Int32 × St) :=
  f_Rota_debtsOf_b5 F F s p1 p2 0 0
set_option maxHeartbeats 1000000 in
theorem c_f_Rota_debtsOf_b5 {F : Nat} {Γ : Ga} {D : DD} {B : Nat} {r : Int32} {s' : St} (X : Cx Γ RX5 cX5_debtsOf 5 D B { frames := 0, cells := 0, slots := 0, locals := 0 }) (hr : (Gme Γ).sig.returnType = (some .int)) : ∀ (n : Nat) {s : St} {l1 : Int32} {l2 : Int32} {l3 : Int32} {l4 : Int32}, f_Rota_debtsOf_b5 F n s l1 l2 l3 l4 = some (r, s') → V Γ D B true 5 (QM Γ D B true s' (some (.int r)) 0 0) 0 0 s 5 [(0, .ref (B + 12)), (1, .int l1), (2, .int l2), (3, .int l3), (4, .int l4)] [] := by
  intro n
  induction n with
  | zero => intro s l1 l2 l3 l4 hf; rw [f_Rota_debtsOf_b5] at hf; cases hf
  | succ n ih =>
    intro s l1 l2 l3 l4 hf
    rw [f_Rota_debtsOf_b5] at hf
    refine r_iload (pc := 5) X dX5_debtsOf_5 4 rfl ?_
    refine r_aload_n (x := some 12) (pc := 7) X dX5_debtsOf_7 0 rfl ?_
    refine r_get (j := 6) (pc := 8) X ce_12 rfl inT5 (by decide) w_127 rfl dX5_debtsOf_8 ?_
    refine b_icmp_ge (tgt := 60) (pc := 11) X dX5_debtsOf_11 (by decide) hf (fun hf => ?_) (fun hf => ?_)
    · refine r_iload_n (pc := 60) X dX5_debtsOf_60 3 rfl ?_
      exact e_iret (pc := 61) X hr hf (Nat.le_refl _) (Nat.le_refl _) dX5_debtsOf_61
    · refine r_iload (pc := 14) X dX5_debtsOf_14 4 rfl ?_
      refine r_aload_n (x := some 12) (pc := 16) X dX5_debtsOf_16 0 rfl ?_
      refine r_get (j := 4) (pc := 17) X ce_12 rfl inT5 (by decide) w_125 rfl dX5_debtsOf_17 ?_
      refine r_alen (t0 := 1) (v := 4000) (pc := 20) X ce_16 rfl (by decide) dX5_debtsOf_20 ?_
      refine b_icmp_ge (tgt := 60) (pc := 21) X dX5_debtsOf_21 (by decide) hf (fun hf => ?_) (fun hf => ?_)
      · refine r_iload_n (pc := 60) X dX5_debtsOf_60 3 rfl ?_
        exact e_iret (pc := 61) X hr hf (Nat.le_refl _) (Nat.le_refl _) dX5_debtsOf_61
      · refine r_iload_n (pc := 24) X dX5_debtsOf_24 3 rfl ?_
        refine r_aload_n (x := some 12) (pc := 25) X dX5_debtsOf_25 0 rfl ?_
        refine r_get (j := 4) (pc := 26) X ce_12 rfl inT5 (by decide) w_125 rfl dX5_debtsOf_26 ?_
        refine r_iload (pc := 29) X dX5_debtsOf_29 4 rfl ?_
        refine b_iald (pc := 31) X ce_16 dX5_debtsOf_31 hf (fun j1 hf => ?_)
        refine r_iload_n (pc := 32) X dX5_debtsOf_32 1 rfl ?_
        refine b_icmp_ne (tgt := 51) (pc := 33) X dX5_debtsOf_33 (by decide) hf (fun hf => ?_) (fun hf => ?_)
        · refine r_aload_n (x := some 12) (pc := 36) X dX5_debtsOf_36 0 rfl ?_
          refine r_get (j := 5) (pc := 37) X ce_12 rfl inT5 (by decide) w_126 rfl dX5_debtsOf_37 ?_
          refine r_iload (pc := 40) X dX5_debtsOf_40 4 rfl ?_
          refine b_iald (pc := 42) X ce_17 dX5_debtsOf_42 hf (fun j2 hf => ?_)
          refine r_iload_n (pc := 43) X dX5_debtsOf_43 2 rfl ?_
          refine b_icmp_ne (tgt := 51) (pc := 44) X dX5_debtsOf_44 (by decide) hf (fun hf => ?_) (fun hf => ?_)
          · refine r_iconst (v := 1) (pc := 47) X dX5_debtsOf_47 (by decide) ?_
            refine r_goto (tgt := 52) (pc := 48) X dX5_debtsOf_48 (by decide) ?_
            refine r_iadd (pc := 52) X dX5_debtsOf_52 ?_
            refine r_istore_n (pc := 53) (lv' := [(0, .ref (B + 12)), (1, .int l1), (2, .int l2), (3, .int (l3 + 1)), (4, .int l4)]) X dX5_debtsOf_53 (by decide) [1, 2, 3, 0, 4] rfl ?_
            refine r_iinc (v := l4 + 1) (lv' := [(0, .ref (B + 12)), (1, .int l1), (2, .int l2), (3, .int (l3 + 1)), (4, .int (l4 + 1))]) (pc := 54) X dX5_debtsOf_54 4 rfl rfl (by decide) [1, 2, 3, 4, 0] rfl ?_
            refine r_goto (tgt := 5) (pc := 57) X dX5_debtsOf_57 (by decide) ?_
            exact ih hf
          · refine r_iconst (v := 0) (pc := 51) X dX5_debtsOf_51 (by decide) ?_
            refine r_iadd (pc := 52) X dX5_debtsOf_52 ?_
            refine r_istore_n (pc := 53) (lv' := [(0, .ref (B + 12)), (1, .int l1), (2, .int l2), (3, .int (l3 + 0)), (4, .int l4)]) X dX5_debtsOf_53 (by decide) [1, 2, 3, 0, 4] rfl ?_
            refine r_iinc (v := l4 + 1) (lv' := [(0, .ref (B + 12)), (1, .int l1), (2, .int l2), (3, .int (l3 + 0)), (4, .int (l4 + 1))]) (pc := 54) X dX5_debtsOf_54 4 rfl rfl (by decide) [1, 2, 3, 4, 0] rfl ?_
            refine r_goto (tgt := 5) (pc := 57) X dX5_debtsOf_57 (by decide) ?_
            exact ih hf
        · refine r_iconst (v := 0) (pc := 51) X dX5_debtsOf_51 (by decide) ?_
          refine r_iadd (pc := 52) X dX5_debtsOf_52 ?_
          refine r_istore_n (pc := 53) (lv' := [(0, .ref (B + 12)), (1, .int l1), (2, .int l2), (3, .int (l3 + 0)), (4, .int l4)]) X dX5_debtsOf_53 (by decide) [1, 2, 3, 0, 4] rfl ?_
          refine r_iinc (v := l4 + 1) (lv' := [(0, .ref (B + 12)), (1, .int l1), (2, .int l2), (3, .int (l3 + 0)), (4, .int (l4 + 1))]) (pc := 54) X dX5_debtsOf_54 4 rfl rfl (by decide) [1, 2, 3, 4, 0] rfl ?_
          refine r_goto (tgt := 5) (pc := 57) X dX5_debtsOf_57 (by decide) ?_
          exact ih hf
set_option maxHeartbeats 1000000 in
theorem c_f_Rota_debtsOf {F : Nat} {s : St} {p1 : Int32} {p2 : Int32} {r : Int32} {s' : St} (hf : f_Rota_debtsOf F s p1 p2 = some (r, s')) : CC true yX5_debtsOf (Cond.code yX5_debtsOf cX5_debtsOf 5 (some .int)) 0 0 (fun B => [.ref (B + 12), .int p1, .int p2]) s (fun B => (some (.int r))) s' 0 0 := by
  refine CC.of (fun B => [(0, .ref (B + 12)), (1, .int p1), (2, .int p2)]) (by decide +kernel) (fun _ => rfl) (fun _ => (by simp [lg_sl, rfB_cat, catI, catL, catR])) (fun Γ D B X hr hin => ?_)
  have X : Cx Γ RX5 cX5_debtsOf 5 D B { frames := 0, cells := 0, slots := 0, locals := 0 } := X
  unfold f_Rota_debtsOf at hf
  refine r_iconst (v := 0) (pc := 0) X dX5_debtsOf_0 (by decide) ?_
  refine r_istore_n (pc := 1) (lv' := [(0, .ref (B + 12)), (1, .int p1), (2, .int p2), (3, .int 0)]) X dX5_debtsOf_1 (by decide) [1, 2, 3, 0] rfl ?_
  refine r_iconst (v := 0) (pc := 2) X dX5_debtsOf_2 (by decide) ?_
  refine r_istore (pc := 3) (lv' := [(0, .ref (B + 12)), (1, .int p1), (2, .int p2), (3, .int 0), (4, .int 0)]) X dX5_debtsOf_3 (by decide) [1, 2, 3, 4, 0] rfl ?_
  exact c_f_Rota_debtsOf_b5 X hr _ hf
/-! f_Rule_addSilence -/
theorem dX6_addSilence_0 : decode cX6_addSilence 0 = .ok (.aload_n 0, 1) := by decide +kernel
theorem dX6_addSilence_1 : decode cX6_addSilence 1 = .ok (.getfield 22, 3) := by decide +kernel
theorem dX6_addSilence_4 : decode cX6_addSilence 4 = .ok (.iconst 0, 1) := by decide +kernel
theorem dX6_addSilence_5 : decode cX6_addSilence 5 = .ok (.iconst 4, 1) := by decide +kernel
theorem dX6_addSilence_6 : decode cX6_addSilence 6 = .ok (.invokestatic 47, 3) := by decide +kernel
theorem dX6_addSilence_9 : decode cX6_addSilence 9 = .ok (.ifCond .eq 33, 3) := by decide +kernel
theorem dX6_addSilence_12 : decode cX6_addSilence 12 = .ok (.aload_n 0, 1) := by decide +kernel
theorem dX6_addSilence_13 : decode cX6_addSilence 13 = .ok (.getfield 15, 3) := by decide +kernel
theorem dX6_addSilence_16 : decode cX6_addSilence 16 = .ok (.aload_n 0, 1) := by decide +kernel
theorem dX6_addSilence_17 : decode cX6_addSilence 17 = .ok (.getfield 22, 3) := by decide +kernel
theorem dX6_addSilence_20 : decode cX6_addSilence 20 = .ok (.iload_n 1, 1) := by decide +kernel
theorem dX6_addSilence_21 : decode cX6_addSilence 21 = .ok (.iastore, 1) := by decide +kernel
theorem dX6_addSilence_22 : decode cX6_addSilence 22 = .ok (.aload_n 0, 1) := by decide +kernel
theorem dX6_addSilence_23 : decode cX6_addSilence 23 = .ok (.getfield 19, 3) := by decide +kernel
theorem dX6_addSilence_26 : decode cX6_addSilence 26 = .ok (.aload_n 0, 1) := by decide +kernel
theorem dX6_addSilence_27 : decode cX6_addSilence 27 = .ok (.getfield 22, 3) := by decide +kernel
theorem dX6_addSilence_30 : decode cX6_addSilence 30 = .ok (.iload_n 2, 1) := by decide +kernel
theorem dX6_addSilence_31 : decode cX6_addSilence 31 = .ok (.iastore, 1) := by decide +kernel
theorem dX6_addSilence_32 : decode cX6_addSilence 32 = .ok (.aload_n 0, 1) := by decide +kernel
theorem dX6_addSilence_33 : decode cX6_addSilence 33 = .ok (.dup, 1) := by decide +kernel
theorem dX6_addSilence_34 : decode cX6_addSilence 34 = .ok (.getfield 22, 3) := by decide +kernel
theorem dX6_addSilence_37 : decode cX6_addSilence 37 = .ok (.iconst 1, 1) := by decide +kernel
theorem dX6_addSilence_38 : decode cX6_addSilence 38 = .ok (.iadd, 1) := by decide +kernel
theorem dX6_addSilence_39 : decode cX6_addSilence 39 = .ok (.putfield 22, 3) := by decide +kernel
theorem dX6_addSilence_42 : decode cX6_addSilence 42 = .ok (.return_, 1) := by decide +kernel
def f_Rule_addSilence (F : Nat) (s : St) (p0 : Option Nat) (p1 : Int32) (p2 : Int32) : Option (St) :=
  (dgo s p0 6).bind fun o1 => ((f_P_isIn F s (o1.2.1 8) 0 4).bind fun x2 => (if x2.1 = 0 then
    (some x2.2)
  else
    ((dgo x2.2 p0 6).bind fun o3 => ((dgo x2.2 p0 6).bind fun o4 => ((dga x2.2 (o3.2.2.1 6) 1).bind fun o5 => ((ix o5.2.1 (o4.2.1 8)).bind fun j6 => (lt (sD x2.2 o5.1 (.inr (.inl (1, o5.2.1, ups o5.2.2 j6 p1)))) fun s7 => ((dgo s7 p0 6).bind fun o8 => ((dgo s7 p0 6).bind fun o9 => ((dga s7 (o8.2.2.1 7) 1).bind fun o10 => ((ix o10.2.1 (o9.2.1 8)).bind fun j11 => (lt (sD s7 o10.1 (.inr (.inl (1, o10.2.1, ups o10.2.2 j11 p2)))) fun s12 => ((dgo s12 p0 6).bind fun o13 => ((dgo s12 p0 6).bind fun o14 => (lt (sF s12 o14 6 (ups o14.2.1 8 ((o13.2.1 8) + 1), o14.2.2)) fun s15 => (some s15))))))))))))))))
set_option maxHeartbeats 1000000 in
theorem c_f_Rule_addSilence {F : Nat} {s : St} {p0 : Option Nat} {p1 : Int32} {p2 : Int32} {s' : St} (hf : f_Rule_addSilence F s p0 p1 p2 = some s') : CC true yX6_addSilence (Cond.code yX6_addSilence cX6_addSilence 3 none) 1 22 (fun B => [rfB B p0, .int p1, .int p2]) s (fun B => none) s' 0 0 := by
  refine CC.of (fun B => [(0, rfB B p0), (1, .int p1), (2, .int p2)]) (by decide +kernel) (fun _ => (by simp [lv_args, rfB_cat, catI, catL, catR])) (fun _ => (by simp [lg_sl, rfB_cat, catI, catL, catR])) (fun Γ D B X hr hin => ?_)
  have X : Cx Γ RX6 cX6_addSilence 3 D B { frames := 1, cells := 0, slots := 0, locals := 22 } := X
  unfold f_Rule_addSilence at hf
  refine r_aload_n (pc := 0) X dX6_addSilence_0 0 rfl ?_
  refine b_dgetI (j := 8) (pc := 1) X rfl inT6 (by decide) w_729 rfl dX6_addSilence_1 hf (fun o1 hf => ?_)
  refine r_iconst (v := 0) (pc := 4) X dX6_addSilence_4 (by decide) ?_
  refine r_iconst (v := 4) (pc := 5) X dX6_addSilence_5 (by decide) ?_
  refine bnd hf (fun x2 h2 hf => ?_)
  refine r_callSNi (As := [.int (o1.2.1 8), .int 0, .int 4]) (st := []) (pc := 6) X (c_f_P_isIn h2) rfl wn_526 w_342 w_36 w_343 hdS_X10_isIn (by decide) (by decide) (by decide) (Nat.le_of_ble_eq_true rfl) dX6_addSilence_6 rfl ?_
  refine b_if_eq (tgt := 42) (pc := 9) X dX6_addSilence_9 (by decide) hf (fun hf => ?_) (fun hf => ?_)
  · exact e_vret (pc := 42) X hr hf (Nat.le_refl _) (Nat.le_refl _) dX6_addSilence_42
  · refine r_aload_n (pc := 12) X dX6_addSilence_12 0 rfl ?_
    refine b_dgetR (j := 6) (pc := 13) X rfl inT6 (by decide) w_727 rfl dX6_addSilence_13 hf (fun o3 hf => ?_)
    refine r_aload_n (pc := 16) X dX6_addSilence_16 0 rfl ?_
    refine b_dgetI (j := 8) (pc := 17) X rfl inT6 (by decide) w_729 rfl dX6_addSilence_17 hf (fun o4 hf => ?_)
    refine r_iload_n (pc := 20) X dX6_addSilence_20 1 rfl ?_
    refine b_dast (pc := 21) X dX6_addSilence_21 hf (fun o5 j6 s7 hf => ?_)
    refine r_aload_n (pc := 22) X dX6_addSilence_22 0 rfl ?_
    refine b_dgetR (j := 7) (pc := 23) X rfl inT6 (by decide) w_728 rfl dX6_addSilence_23 hf (fun o8 hf => ?_)
    refine r_aload_n (pc := 26) X dX6_addSilence_26 0 rfl ?_
    refine b_dgetI (j := 8) (pc := 27) X rfl inT6 (by decide) w_729 rfl dX6_addSilence_27 hf (fun o9 hf => ?_)
    refine r_iload_n (pc := 30) X dX6_addSilence_30 2 rfl ?_
    refine b_dast (pc := 31) X dX6_addSilence_31 hf (fun o10 j11 s12 hf => ?_)
    refine r_aload_n (pc := 32) X dX6_addSilence_32 0 rfl ?_
    refine r_dup (pc := 33) X dX6_addSilence_33 (rfB_cat _ _) ?_
    refine b_dgetI (j := 8) (pc := 34) X rfl inT6 (by decide) w_729 rfl dX6_addSilence_34 hf (fun o13 hf => ?_)
    refine r_iconst (v := 1) (pc := 37) X dX6_addSilence_37 (by decide) ?_
    refine r_iadd (pc := 38) X dX6_addSilence_38 ?_
    refine b_dputI (j := 8) (pc := 39) X rfl inT6 tyX6 tyX6_ok nmX6 (by decide) w_729 (Or.inl rfl) (tyX6_ok 8 (by decide)) rfl rfl rfl dX6_addSilence_39 hf (fun o14 s15 hf => ?_)
    exact e_vret (pc := 42) X hr hf (Nat.le_refl _) (Nat.le_refl _) dX6_addSilence_42
