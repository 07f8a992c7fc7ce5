/-! f_Rota_hasPerson -/
theorem dX5_hasPerson_0 : decode cX5_hasPerson 0 = .ok (.iload_n 1, 1) := by decide +kernel
theorem dX5_hasPerson_1 : decode cX5_hasPerson 1 = .ok (.ifCond .lt 15, 3) := by decide +kernel
theorem dX5_hasPerson_4 : decode cX5_hasPerson 4 = .ok (.iload_n 1, 1) := by decide +kernel
theorem dX5_hasPerson_5 : decode cX5_hasPerson 5 = .ok (.aload_n 0, 1) := by decide +kernel
theorem dX5_hasPerson_6 : decode cX5_hasPerson 6 = .ok (.getfield 9, 3) := by decide +kernel
theorem dX5_hasPerson_9 : decode cX5_hasPerson 9 = .ok (.if_icmp .ge 7, 3) := by decide +kernel
theorem dX5_hasPerson_12 : decode cX5_hasPerson 12 = .ok (.iconst 1, 1) := by decide +kernel
theorem dX5_hasPerson_13 : decode cX5_hasPerson 13 = .ok (.goto 4, 3) := by decide +kernel
theorem dX5_hasPerson_16 : decode cX5_hasPerson 16 = .ok (.iconst 0, 1) := by decide +kernel
theorem dX5_hasPerson_17 : decode cX5_hasPerson 17 = .ok (.ireturn, 1) := by decide +kernel
def f_Rota_hasPerson (F : Nat) (s : St) (p1 : Int32) : Option (Int32 × St) :=
  if p1 < 0 then
    (some (0, s))
  else
    (if (gI s 768) ≤ p1 then
      (some (0, s))
    else
      (some (1, s)))
set_option maxHeartbeats 1000000 in
theorem c_f_Rota_hasPerson {F : Nat} {s : St} {p1 : Int32} {r : Int32} {s' : St} (hf : f_Rota_hasPerson F s p1 = some (r, s')) : CC true yX5_hasPerson (Cond.code yX5_hasPerson cX5_hasPerson 2 (some .boolean)) 0 0 (fun B => [.ref (B + 12), .int p1]) s (fun B => (some (.int r))) s' 0 0 := by
  refine CC.of (fun B => [(0, .ref (B + 12)), (1, .int p1)]) (by decide +kernel) (fun _ => rfl) (fun _ => (by simp [lg_sl, rfB_cat, Value.category])) (fun Γ D B X hr hin => ?_)
  have X : Cx Γ RX5 cX5_hasPerson 2 D B { frames := 0, cells := 0, slots := 0, locals := 0 } := X
  unfold f_Rota_hasPerson at hf
  refine r_iload_n (pc := 0) X dX5_hasPerson_0 1 rfl ?_
  refine b_if_lt (tgt := 16) (pc := 1) X dX5_hasPerson_1 (by decide) hf (fun hf => ?_) (fun hf => ?_)
  · refine r_iconst (v := 0) (pc := 16) X dX5_hasPerson_16 (by decide) ?_
    exact e_zret (pc := 17) X hr (by decide) hf (Nat.le_refl _) (Nat.le_refl _) dX5_hasPerson_17
  · refine r_iload_n (pc := 4) X dX5_hasPerson_4 1 rfl ?_
    refine r_aload_n (x := some 12) (pc := 5) X dX5_hasPerson_5 0 rfl ?_
    refine r_get (j := 0) (pc := 6) X ce_12 rfl inT5 (by decide) w_159 rfl dX5_hasPerson_6 ?_
    refine b_icmp_ge (tgt := 16) (pc := 9) X dX5_hasPerson_9 (by decide) hf (fun hf => ?_) (fun hf => ?_)
    · refine r_iconst (v := 0) (pc := 16) X dX5_hasPerson_16 (by decide) ?_
      exact e_zret (pc := 17) X hr (by decide) hf (Nat.le_refl _) (Nat.le_refl _) dX5_hasPerson_17
    · refine r_iconst (v := 1) (pc := 12) X dX5_hasPerson_12 (by decide) ?_
      refine r_goto (tgt := 17) (pc := 13) X dX5_hasPerson_13 (by decide) ?_
      exact e_zret (pc := 17) X hr (by decide) hf (Nat.le_refl _) (Nat.le_refl _) dX5_hasPerson_17
/-! f_P_isIn -/
theorem dX10_isIn_0 : decode cX10_isIn 0 = .ok (.iload_n 0, 1) := by decide +kernel
theorem dX10_isIn_1 : decode cX10_isIn 1 = .ok (.iload_n 1, 1) := by decide +kernel
theorem dX10_isIn_2 : decode cX10_isIn 2 = .ok (.if_icmp .lt 12, 3) := by decide +kernel
theorem dX10_isIn_5 : decode cX10_isIn 5 = .ok (.iload_n 0, 1) := by decide +kernel
theorem dX10_isIn_6 : decode cX10_isIn 6 = .ok (.iload_n 2, 1) := by decide +kernel
theorem dX10_isIn_7 : decode cX10_isIn 7 = .ok (.if_icmp .gt 7, 3) := by decide +kernel
theorem dX10_isIn_10 : decode cX10_isIn 10 = .ok (.iconst 1, 1) := by decide +kernel
theorem dX10_isIn_11 : decode cX10_isIn 11 = .ok (.goto 4, 3) := by decide +kernel
theorem dX10_isIn_14 : decode cX10_isIn 14 = .ok (.iconst 0, 1) := by decide +kernel
theorem dX10_isIn_15 : decode cX10_isIn 15 = .ok (.ireturn, 1) := by decide +kernel
def f_P_isIn (F : Nat) (s : St) (p0 : Int32) (p1 : Int32) (p2 : Int32) : Option (Int32 × St) :=
  if p0 < p1 then
    (some (0, s))
  else
    (if p2 < p0 then
      (some (0, s))
    else
      (some (1, s)))
set_option maxHeartbeats 1000000 in
theorem c_f_P_isIn {F : Nat} {s : St} {p0 : Int32} {p1 : Int32} {p2 : Int32} {r : Int32} {s' : St} (hf : f_P_isIn F s p0 p1 p2 = some (r, s')) : CC true yX10_isIn (Cond.code yX10_isIn cX10_isIn 3 (some .boolean)) 0 0 (fun B => [.int p0, .int p1, .int p2]) s (fun B => (some (.int r))) s' 0 0 := by
  refine CC.of (fun B => [(0, .int p0), (1, .int p1), (2, .int p2)]) (by decide +kernel) (fun _ => rfl) (fun _ => (by simp [lg_sl, rfB_cat, Value.category])) (fun Γ D B X hr hin => ?_)
  have X : Cx Γ RX10 cX10_isIn 3 D B { frames := 0, cells := 0, slots := 0, locals := 0 } := X
  unfold f_P_isIn at hf
  refine r_iload_n (pc := 0) X dX10_isIn_0 0 rfl ?_
  refine r_iload_n (pc := 1) X dX10_isIn_1 1 rfl ?_
  refine b_icmp_lt (tgt := 14) (pc := 2) X dX10_isIn_2 (by decide) hf (fun hf => ?_) (fun hf => ?_)
  · refine r_iconst (v := 0) (pc := 14) X dX10_isIn_14 (by decide) ?_
    exact e_zret (pc := 15) X hr (by decide) hf (Nat.le_refl _) (Nat.le_refl _) dX10_isIn_15
  · refine r_iload_n (pc := 5) X dX10_isIn_5 0 rfl ?_
    refine r_iload_n (pc := 6) X dX10_isIn_6 2 rfl ?_
    refine b_icmp_gt (tgt := 14) (pc := 7) X dX10_isIn_7 (by decide) hf (fun hf => ?_) (fun hf => ?_)
    · refine r_iconst (v := 0) (pc := 14) X dX10_isIn_14 (by decide) ?_
      exact e_zret (pc := 15) X hr (by decide) hf (Nat.le_refl _) (Nat.le_refl _) dX10_isIn_15
    · refine r_iconst (v := 1) (pc := 10) X dX10_isIn_10 (by decide) ?_
      refine r_goto (tgt := 15) (pc := 11) X dX10_isIn_11 (by decide) ?_
      exact e_zret (pc := 15) X hr (by decide) hf (Nat.le_refl _) (Nat.le_refl _) dX10_isIn_15
/-! f_Rota_turnOff -/
theorem dX5_turnOff_0 : decode cX5_turnOff 0 = .ok (.iload_n 2, 1) := by decide +kernel
theorem dX5_turnOff_1 : decode cX5_turnOff 1 = .ok (.iconst 0, 1) := by decide +kernel
theorem dX5_turnOff_2 : decode cX5_turnOff 2 = .ok (.bipush 125, 2) := by decide +kernel
theorem dX5_turnOff_4 : decode cX5_turnOff 4 = .ok (.invokestatic 40, 3) := by decide +kernel
theorem dX5_turnOff_7 : decode cX5_turnOff 7 = .ok (.ifCond .eq 15, 3) := by decide +kernel
theorem dX5_turnOff_10 : decode cX5_turnOff 10 = .ok (.aload_n 0, 1) := by decide +kernel
theorem dX5_turnOff_11 : decode cX5_turnOff 11 = .ok (.getfield 19, 3) := by decide +kernel
theorem dX5_turnOff_14 : decode cX5_turnOff 14 = .ok (.iload_n 2, 1) := by decide +kernel
theorem dX5_turnOff_15 : decode cX5_turnOff 15 = .ok (.dup2, 1) := by decide +kernel
theorem dX5_turnOff_16 : decode cX5_turnOff 16 = .ok (.iaload, 1) := by decide +kernel
theorem dX5_turnOff_17 : decode cX5_turnOff 17 = .ok (.iconst 1, 1) := by decide +kernel
theorem dX5_turnOff_18 : decode cX5_turnOff 18 = .ok (.iload_n 1, 1) := by decide +kernel
theorem dX5_turnOff_19 : decode cX5_turnOff 19 = .ok (.ishl, 1) := by decide +kernel
theorem dX5_turnOff_20 : decode cX5_turnOff 20 = .ok (.ixor, 1) := by decide +kernel
theorem dX5_turnOff_21 : decode cX5_turnOff 21 = .ok (.iastore, 1) := by decide +kernel
theorem dX5_turnOff_22 : decode cX5_turnOff 22 = .ok (.return_, 1) := by decide +kernel
def f_Rota_turnOff (F : Nat) (s : St) (p1 : Int32) (p2 : Int32) : Option (St) :=
  (f_P_isIn F s p2 0 125).bind fun x1 => (if x1.1 = 0 then
    (some x1.2)
  else
    ((ix 126 p2).bind fun j2 => ((ix 126 p2).bind fun j3 => (lt (sA x1.2 14 j3 ((gA x1.2 14 j2) ^^^ ((1 : Int32) <<< (p1 &&& 31)))) fun s4 => (some s4)))))
set_option maxHeartbeats 1000000 in
theorem c_f_Rota_turnOff {F : Nat} {s : St} {p1 : Int32} {p2 : Int32} {s' : St} (hf : f_Rota_turnOff F s p1 p2 = some s') : CC true yX5_turnOff (Cond.code yX5_turnOff cX5_turnOff 3 none) 1 22 (fun B => [.ref (B + 12), .int p1, .int p2]) s (fun B => none) s' 0 0 := by
  refine CC.of (fun B => [(0, .ref (B + 12)), (1, .int p1), (2, .int p2)]) (by decide +kernel) (fun _ => rfl) (fun _ => (by simp [lg_sl, rfB_cat, Value.category])) (fun Γ D B X hr hin => ?_)
  have X : Cx Γ RX5 cX5_turnOff 3 D B { frames := 1, cells := 0, slots := 0, locals := 22 } := X
  unfold f_Rota_turnOff at hf
  refine r_iload_n (pc := 0) X dX5_turnOff_0 2 rfl ?_
  refine r_iconst (v := 0) (pc := 1) X dX5_turnOff_1 (by decide) ?_
  refine r_bipush (v := 125) (pc := 2) X dX5_turnOff_2 (by decide) ?_
  refine bnd hf (fun x1 h1 hf => ?_)
  refine r_callSNi (As := [.int p2, .int 0, .int 125]) (st := []) (pc := 4) X (c_f_P_isIn h1) rfl wn_473 w_474 w_74 w_475 hdS_X10_isIn (by decide) (by decide) (by decide) (Nat.le_of_ble_eq_true rfl) dX5_turnOff_4 rfl ?_
  refine b_if_eq (tgt := 22) (pc := 7) X dX5_turnOff_7 (by decide) hf (fun hf => ?_) (fun hf => ?_)
  · exact e_vret (pc := 22) X hr hf (Nat.le_refl _) (Nat.le_refl _) dX5_turnOff_22
  · refine r_aload_n (x := some 12) (pc := 10) X dX5_turnOff_10 0 rfl ?_
    refine r_get (j := 2) (pc := 11) X ce_12 rfl inT5 (by decide) w_162 rfl dX5_turnOff_11 ?_
    refine r_iload_n (pc := 14) X dX5_turnOff_14 2 rfl ?_
    refine r_dup2 (pc := 15) X dX5_turnOff_15 rfl rfl ?_
    refine b_iald (pc := 16) X ce_14 dX5_turnOff_16 hf (fun j2 hf => ?_)
    refine r_iconst (v := 1) (pc := 17) X dX5_turnOff_17 (by decide) ?_
    refine r_iload_n (pc := 18) X dX5_turnOff_18 1 rfl ?_
    refine r_ishl (pc := 19) X dX5_turnOff_19 ?_
    refine r_ixor (pc := 20) X dX5_turnOff_20 ?_
    refine b_iast (pc := 21) X ce_14 (fun _ => ca_14 _ _) dX5_turnOff_21 hf (fun j3 hf => ?_)
    replace hf := ltb hf
    exact e_vret (pc := 22) X hr hf (Nat.le_refl _) (Nat.le_refl _) dX5_turnOff_22
/-! f_Rota_isOff -/
theorem dX5_isOff_0 : decode cX5_isOff 0 = .ok (.iload_n 2, 1) := by decide +kernel
theorem dX5_isOff_1 : decode cX5_isOff 1 = .ok (.iconst 0, 1) := by decide +kernel
theorem dX5_isOff_2 : decode cX5_isOff 2 = .ok (.bipush 125, 2) := by decide +kernel
theorem dX5_isOff_4 : decode cX5_isOff 4 = .ok (.invokestatic 40, 3) := by decide +kernel
theorem dX5_isOff_7 : decode cX5_isOff 7 = .ok (.ifCond .eq 20, 3) := by decide +kernel
theorem dX5_isOff_10 : decode cX5_isOff 10 = .ok (.aload_n 0, 1) := by decide +kernel
theorem dX5_isOff_11 : decode cX5_isOff 11 = .ok (.getfield 19, 3) := by decide +kernel
theorem dX5_isOff_14 : decode cX5_isOff 14 = .ok (.iload_n 2, 1) := by decide +kernel
theorem dX5_isOff_15 : decode cX5_isOff 15 = .ok (.iaload, 1) := by decide +kernel
theorem dX5_isOff_16 : decode cX5_isOff 16 = .ok (.iload_n 1, 1) := by decide +kernel
theorem dX5_isOff_17 : decode cX5_isOff 17 = .ok (.ishr, 1) := by decide +kernel
theorem dX5_isOff_18 : decode cX5_isOff 18 = .ok (.iconst 1, 1) := by decide +kernel
theorem dX5_isOff_19 : decode cX5_isOff 19 = .ok (.iand, 1) := by decide +kernel
theorem dX5_isOff_20 : decode cX5_isOff 20 = .ok (.ifCond .eq 7, 3) := by decide +kernel
theorem dX5_isOff_23 : decode cX5_isOff 23 = .ok (.iconst 1, 1) := by decide +kernel
theorem dX5_isOff_24 : decode cX5_isOff 24 = .ok (.goto 4, 3) := by decide +kernel
theorem dX5_isOff_27 : decode cX5_isOff 27 = .ok (.iconst 0, 1) := by decide +kernel
theorem dX5_isOff_28 : decode cX5_isOff 28 = .ok (.ireturn, 1) := by decide +kernel
def f_Rota_isOff (F : Nat) (s : St) (p1 : Int32) (p2 : Int32) : Option (Int32 × St) :=
  (f_P_isIn F s p2 0 125).bind fun x1 => (if x1.1 = 0 then
    (some (0, x1.2))
  else
    ((ix 126 p2).bind fun j2 => (if (((gA x1.2 14 j2) >>> (p1 &&& 31)) &&& 1) = 0 then
      (some (0, x1.2))
    else
      (some (1, x1.2)))))
set_option maxHeartbeats 1000000 in
theorem c_f_Rota_isOff {F : Nat} {s : St} {p1 : Int32} {p2 : Int32} {r : Int32} {s' : St} (hf : f_Rota_isOff F s p1 p2 = some (r, s')) : CC true yX5_isOff (Cond.code yX5_isOff cX5_isOff 3 (some .boolean)) 1 22 (fun B => [.ref (B + 12), .int p1, .int p2]) s (fun B => (some (.int r))) s' 0 0 := by
  refine CC.of (fun B => [(0, .ref (B + 12)), (1, .int p1), (2, .int p2)]) (by decide +kernel) (fun _ => rfl) (fun _ => (by simp [lg_sl, rfB_cat, Value.category])) (fun Γ D B X hr hin => ?_)
  have X : Cx Γ RX5 cX5_isOff 3 D B { frames := 1, cells := 0, slots := 0, locals := 22 } := X
  unfold f_Rota_isOff at hf
  refine r_iload_n (pc := 0) X dX5_isOff_0 2 rfl ?_
  refine r_iconst (v := 0) (pc := 1) X dX5_isOff_1 (by decide) ?_
  refine r_bipush (v := 125) (pc := 2) X dX5_isOff_2 (by decide) ?_
  refine bnd hf (fun x1 h1 hf => ?_)
  refine r_callSNi (As := [.int p2, .int 0, .int 125]) (st := []) (pc := 4) X (c_f_P_isIn h1) rfl wn_473 w_474 w_74 w_475 hdS_X10_isIn (by decide) (by decide) (by decide) (Nat.le_of_ble_eq_true rfl) dX5_isOff_4 rfl ?_
  refine b_if_eq (tgt := 27) (pc := 7) X dX5_isOff_7 (by decide) hf (fun hf => ?_) (fun hf => ?_)
  · refine r_iconst (v := 0) (pc := 27) X dX5_isOff_27 (by decide) ?_
    exact e_zret (pc := 28) X hr (by decide) hf (Nat.le_refl _) (Nat.le_refl _) dX5_isOff_28
  · refine r_aload_n (x := some 12) (pc := 10) X dX5_isOff_10 0 rfl ?_
    refine r_get (j := 2) (pc := 11) X ce_12 rfl inT5 (by decide) w_162 rfl dX5_isOff_11 ?_
    refine r_iload_n (pc := 14) X dX5_isOff_14 2 rfl ?_
    refine b_iald (pc := 15) X ce_14 dX5_isOff_15 hf (fun j2 hf => ?_)
    refine r_iload_n (pc := 16) X dX5_isOff_16 1 rfl ?_
    refine r_ishr (pc := 17) X dX5_isOff_17 ?_
    refine r_iconst (v := 1) (pc := 18) X dX5_isOff_18 (by decide) ?_
    refine r_iand (pc := 19) X dX5_isOff_19 ?_
    refine b_if_eq (tgt := 27) (pc := 20) X dX5_isOff_20 (by decide) hf (fun hf => ?_) (fun hf => ?_)
    · refine r_iconst (v := 0) (pc := 27) X dX5_isOff_27 (by decide) ?_
      exact e_zret (pc := 28) X hr (by decide) hf (Nat.le_refl _) (Nat.le_refl _) dX5_isOff_28
    · refine r_iconst (v := 1) (pc := 23) X dX5_isOff_23 (by decide) ?_
      refine r_goto (tgt := 28) (pc := 24) X dX5_isOff_24 (by decide) ?_
      exact e_zret (pc := 28) X hr (by decide) hf (Nat.le_refl _) (Nat.le_refl _) dX5_isOff_28
/-! f_Rota_give -/
theorem dX5_give_0 : decode cX5_give 0 = .ok (.iload_n 1, 1) := by decide +kernel
theorem dX5_give_1 : decode cX5_give 1 = .ok (.iconst 0, 1) := by decide +kernel
theorem dX5_give_2 : decode cX5_give 2 = .ok (.bipush 125, 2) := by decide +kernel
theorem dX5_give_4 : decode cX5_give 4 = .ok (.invokestatic 40, 3) := by decide +kernel
theorem dX5_give_7 : decode cX5_give 7 = .ok (.ifCond .eq 10, 3) := by decide +kernel
theorem dX5_give_10 : decode cX5_give 10 = .ok (.aload_n 0, 1) := by decide +kernel
theorem dX5_give_11 : decode cX5_give 11 = .ok (.getfield 15, 3) := by decide +kernel
theorem dX5_give_14 : decode cX5_give 14 = .ok (.iload_n 1, 1) := by decide +kernel
theorem dX5_give_15 : decode cX5_give 15 = .ok (.iload_n 2, 1) := by decide +kernel
theorem dX5_give_16 : decode cX5_give 16 = .ok (.iastore, 1) := by decide +kernel
theorem dX5_give_17 : decode cX5_give 17 = .ok (.return_, 1) := by decide +kernel
def f_Rota_give (F : Nat) (s : St) (p1 : Int32) (p2 : Int32) : Option (St) :=
  (f_P_isIn F s p1 0 125).bind fun x1 => (if x1.1 = 0 then
    (some x1.2)
  else
    ((ix 126 p1).bind fun j2 => (lt (sA x1.2 13 j2 p2) fun s3 => (some s3))))
set_option maxHeartbeats 1000000 in
theorem c_f_Rota_give {F : Nat} {s : St} {p1 : Int32} {p2 : Int32} {s' : St} (hf : f_Rota_give F s p1 p2 = some s') : CC true yX5_give (Cond.code yX5_give cX5_give 3 none) 1 22 (fun B => [.ref (B + 12), .int p1, .int p2]) s (fun B => none) s' 0 0 := by
  refine CC.of (fun B => [(0, .ref (B + 12)), (1, .int p1), (2, .int p2)]) (by decide +kernel) (fun _ => rfl) (fun _ => (by simp [lg_sl, rfB_cat, Value.category])) (fun Γ D B X hr hin => ?_)
  have X : Cx Γ RX5 cX5_give 3 D B { frames := 1, cells := 0, slots := 0, locals := 22 } := X
  unfold f_Rota_give at hf
  refine r_iload_n (pc := 0) X dX5_give_0 1 rfl ?_
  refine r_iconst (v := 0) (pc := 1) X dX5_give_1 (by decide) ?_
  refine r_bipush (v := 125) (pc := 2) X dX5_give_2 (by decide) ?_
  refine bnd hf (fun x1 h1 hf => ?_)
  refine r_callSNi (As := [.int p1, .int 0, .int 125]) (st := []) (pc := 4) X (c_f_P_isIn h1) rfl wn_473 w_474 w_74 w_475 hdS_X10_isIn (by decide) (by decide) (by decide) (Nat.le_of_ble_eq_true rfl) dX5_give_4 rfl ?_
  refine b_if_eq (tgt := 17) (pc := 7) X dX5_give_7 (by decide) hf (fun hf => ?_) (fun hf => ?_)
  · exact e_vret (pc := 17) X hr hf (Nat.le_refl _) (Nat.le_refl _) dX5_give_17
  · refine r_aload_n (x := some 12) (pc := 10) X dX5_give_10 0 rfl ?_
    refine r_get (j := 1) (pc := 11) X ce_12 rfl inT5 (by decide) w_161 rfl dX5_give_11 ?_
    refine r_iload_n (pc := 14) X dX5_give_14 1 rfl ?_
    refine r_iload_n (pc := 15) X dX5_give_15 2 rfl ?_
    refine b_iast (pc := 16) X ce_13 (fun _ => ca_13 _ _) dX5_give_16 hf (fun j2 hf => ?_)
    replace hf := ltb hf
    exact e_vret (pc := 17) X hr hf (Nat.le_refl _) (Nat.le_refl _) dX5_give_17
/-! f_Rota_plannedFor -/
theorem dX5_plannedFor_0 : decode cX5_plannedFor 0 = .ok (.iload_n 1, 1) := by decide +kernel
theorem dX5_plannedFor_1 : decode cX5_plannedFor 1 = .ok (.iconst 0, 1) := by decide +kernel
theorem dX5_plannedFor_2 : decode cX5_plannedFor 2 = .ok (.bipush 125, 2) := by decide +kernel
theorem dX5_plannedFor_4 : decode cX5_plannedFor 4 = .ok (.invokestatic 40, 3) := by decide +kernel
theorem dX5_plannedFor_7 : decode cX5_plannedFor 7 = .ok (.ifCond .eq 10, 3) := by decide +kernel
theorem dX5_plannedFor_10 : decode cX5_plannedFor 10 = .ok (.aload_n 0, 1) := by decide +kernel
theorem dX5_plannedFor_11 : decode cX5_plannedFor 11 = .ok (.getfield 9, 3) := by decide +kernel
theorem dX5_plannedFor_14 : decode cX5_plannedFor 14 = .ok (.ifCond .gt 5, 3) := by decide +kernel
theorem dX5_plannedFor_17 : decode cX5_plannedFor 17 = .ok (.iconst (-1), 1) := by decide +kernel
theorem dX5_plannedFor_18 : decode cX5_plannedFor 18 = .ok (.ireturn, 1) := by decide +kernel
theorem dX5_plannedFor_19 : decode cX5_plannedFor 19 = .ok (.aload_n 0, 1) := by decide +kernel
theorem dX5_plannedFor_20 : decode cX5_plannedFor 20 = .ok (.getfield 15, 3) := by decide +kernel
theorem dX5_plannedFor_23 : decode cX5_plannedFor 23 = .ok (.iload_n 1, 1) := by decide +kernel
theorem dX5_plannedFor_24 : decode cX5_plannedFor 24 = .ok (.iaload, 1) := by decide +kernel
theorem dX5_plannedFor_25 : decode cX5_plannedFor 25 = .ok (.iconst (-1), 1) := by decide +kernel
theorem dX5_plannedFor_26 : decode cX5_plannedFor 26 = .ok (.if_icmp .eq 12, 3) := by decide +kernel
theorem dX5_plannedFor_29 : decode cX5_plannedFor 29 = .ok (.aload_n 0, 1) := by decide +kernel
theorem dX5_plannedFor_30 : decode cX5_plannedFor 30 = .ok (.getfield 15, 3) := by decide +kernel
theorem dX5_plannedFor_33 : decode cX5_plannedFor 33 = .ok (.iload_n 1, 1) := by decide +kernel
theorem dX5_plannedFor_34 : decode cX5_plannedFor 34 = .ok (.iaload, 1) := by decide +kernel
theorem dX5_plannedFor_35 : decode cX5_plannedFor 35 = .ok (.goto 9, 3) := by decide +kernel
theorem dX5_plannedFor_38 : decode cX5_plannedFor 38 = .ok (.iload_n 1, 1) := by decide +kernel
theorem dX5_plannedFor_39 : decode cX5_plannedFor 39 = .ok (.aload_n 0, 1) := by decide +kernel
theorem dX5_plannedFor_40 : decode cX5_plannedFor 40 = .ok (.getfield 9, 3) := by decide +kernel
theorem dX5_plannedFor_43 : decode cX5_plannedFor 43 = .ok (.irem, 1) := by decide +kernel
theorem dX5_plannedFor_44 : decode cX5_plannedFor 44 = .ok (.ireturn, 1) := by decide +kernel
def f_Rota_plannedFor (F : Nat) (s : St) (p1 : Int32) : Option (Int32 × St) :=
  (f_P_isIn F s p1 0 125).bind fun x1 => (if x1.1 = 0 then
    (some ((-1), x1.2))
  else
    (if 0 < (gI x1.2 768) then
      ((ix 126 p1).bind fun j2 => (if (gA x1.2 13 j2) = (-1) then
        (if gI x1.2 768 = 0 then none else (some ((p1 - p1 / (gI x1.2 768) * (gI x1.2 768)), x1.2)))
      else
        ((ix 126 p1).bind fun j3 => (some ((gA x1.2 13 j3), x1.2)))))
    else
      (some ((-1), x1.2))))
set_option maxHeartbeats 1000000 in
theorem c_f_Rota_plannedFor {F : Nat} {s : St} {p1 : Int32} {r : Int32} {s' : St} (hf : f_Rota_plannedFor F s p1 = some (r, s')) : CC true yX5_plannedFor (Cond.code yX5_plannedFor cX5_plannedFor 2 (some .int)) 1 22 (fun B => [.ref (B + 12), .int p1]) s (fun B => (some (.int r))) s' 0 0 := by
  refine CC.of (fun B => [(0, .ref (B + 12)), (1, .int p1)]) (by decide +kernel) (fun _ => rfl) (fun _ => (by simp [lg_sl, rfB_cat, Value.category])) (fun Γ D B X hr hin => ?_)
  have X : Cx Γ RX5 cX5_plannedFor 2 D B { frames := 1, cells := 0, slots := 0, locals := 22 } := X
  unfold f_Rota_plannedFor at hf
  refine r_iload_n (pc := 0) X dX5_plannedFor_0 1 rfl ?_
  refine r_iconst (v := 0) (pc := 1) X dX5_plannedFor_1 (by decide) ?_
  refine r_bipush (v := 125) (pc := 2) X dX5_plannedFor_2 (by decide) ?_
  refine bnd hf (fun x1 h1 hf => ?_)
  refine r_callSNi (As := [.int p1, .int 0, .int 125]) (st := []) (pc := 4) X (c_f_P_isIn h1) rfl wn_473 w_474 w_74 w_475 hdS_X10_isIn (by decide) (by decide) (by decide) (Nat.le_of_ble_eq_true rfl) dX5_plannedFor_4 rfl ?_
  refine b_if_eq (tgt := 17) (pc := 7) X dX5_plannedFor_7 (by decide) hf (fun hf => ?_) (fun hf => ?_)
  · refine r_iconst (v := -1) (pc := 17) X dX5_plannedFor_17 (by decide) ?_
    exact e_iret (pc := 18) X hr hf (Nat.le_refl _) (Nat.le_refl _) dX5_plannedFor_18
  · refine r_aload_n (x := some 12) (pc := 10) X dX5_plannedFor_10 0 rfl ?_
    refine r_get (j := 0) (pc := 11) X ce_12 rfl inT5 (by decide) w_159 rfl dX5_plannedFor_11 ?_
    refine b_if_gt (tgt := 19) (pc := 14) X dX5_plannedFor_14 (by decide) hf (fun hf => ?_) (fun hf => ?_)
    · refine r_aload_n (x := some 12) (pc := 19) X dX5_plannedFor_19 0 rfl ?_
      refine r_get (j := 1) (pc := 20) X ce_12 rfl inT5 (by decide) w_161 rfl dX5_plannedFor_20 ?_
      refine r_iload_n (pc := 23) X dX5_plannedFor_23 1 rfl ?_
      refine b_iald (pc := 24) X ce_13 dX5_plannedFor_24 hf (fun j2 hf => ?_)
      refine r_iconst (v := -1) (pc := 25) X dX5_plannedFor_25 (by decide) ?_
      refine b_icmp_eq (tgt := 38) (pc := 26) X dX5_plannedFor_26 (by decide) hf (fun hf => ?_) (fun hf => ?_)
      · refine r_iload_n (pc := 38) X dX5_plannedFor_38 1 rfl ?_
        refine r_aload_n (x := some 12) (pc := 39) X dX5_plannedFor_39 0 rfl ?_
        refine r_get (j := 0) (pc := 40) X ce_12 rfl inT5 (by decide) w_159 rfl dX5_plannedFor_40 ?_
        refine ifz hf (fun hne hf => ?_)
        refine r_irem (pc := 43) X dX5_plannedFor_43 hne ?_
        exact e_iret (pc := 44) X hr hf (Nat.le_refl _) (Nat.le_refl _) dX5_plannedFor_44
      · refine r_aload_n (x := some 12) (pc := 29) X dX5_plannedFor_29 0 rfl ?_
        refine r_get (j := 1) (pc := 30) X ce_12 rfl inT5 (by decide) w_161 rfl dX5_plannedFor_30 ?_
        refine r_iload_n (pc := 33) X dX5_plannedFor_33 1 rfl ?_
        refine b_iald (pc := 34) X ce_13 dX5_plannedFor_34 hf (fun j3 hf => ?_)
        refine r_goto (tgt := 44) (pc := 35) X dX5_plannedFor_35 (by decide) ?_
        exact e_iret (pc := 44) X hr hf (Nat.le_refl _) (Nat.le_refl _) dX5_plannedFor_44
    · refine r_iconst (v := -1) (pc := 17) X dX5_plannedFor_17 (by decide) ?_
      exact e_iret (pc := 18) X hr hf (Nat.le_refl _) (Nat.le_refl _) dX5_plannedFor_18
/-! f_P_isNight -/
theorem dX10_isNight_0 : decode cX10_isNight 0 = .ok (.iload_n 0, 1) := by decide +kernel
theorem dX10_isNight_1 : decode cX10_isNight 1 = .ok (.iconst 3, 1) := by decide +kernel
theorem dX10_isNight_2 : decode cX10_isNight 2 = .ok (.irem, 1) := by decide +kernel
theorem dX10_isNight_3 : decode cX10_isNight 3 = .ok (.ifCond .ne 7, 3) := by decide +kernel
theorem dX10_isNight_6 : decode cX10_isNight 6 = .ok (.iconst 1, 1) := by decide +kernel
theorem dX10_isNight_7 : decode cX10_isNight 7 = .ok (.goto 4, 3) := by decide +kernel
theorem dX10_isNight_10 : decode cX10_isNight 10 = .ok (.iconst 0, 1) := by decide +kernel
theorem dX10_isNight_11 : decode cX10_isNight 11 = .ok (.ireturn, 1) := by decide +kernel
def f_P_isNight (F : Nat) (s : St) (p0 : Int32) : Option (Int32 × St) :=
  if (p0 - p0 / 3 * 3) = 0 then
    (some (1, s))
  else
    (some (0, s))
set_option maxHeartbeats 1000000 in
theorem c_f_P_isNight {F : Nat} {s : St} {p0 : Int32} {r : Int32} {s' : St} (hf : f_P_isNight F s p0 = some (r, s')) : CC true yX10_isNight (Cond.code yX10_isNight cX10_isNight 1 (some .boolean)) 0 0 (fun B => [.int p0]) s (fun B => (some (.int r))) s' 0 0 := by
  refine CC.of (fun B => [(0, .int p0)]) (by decide +kernel) (fun _ => rfl) (fun _ => (by simp [lg_sl, rfB_cat, Value.category])) (fun Γ D B X hr hin => ?_)
  have X : Cx Γ RX10 cX10_isNight 1 D B { frames := 0, cells := 0, slots := 0, locals := 0 } := X
  unfold f_P_isNight at hf
  refine r_iload_n (pc := 0) X dX10_isNight_0 0 rfl ?_
  refine r_iconst (v := 3) (pc := 1) X dX10_isNight_1 (by decide) ?_
  refine r_irem (pc := 2) X dX10_isNight_2 (by decide) ?_
  refine b_if_ne (tgt := 10) (pc := 3) X dX10_isNight_3 (by decide) hf (fun hf => ?_) (fun hf => ?_)
  · refine r_iconst (v := 1) (pc := 6) X dX10_isNight_6 (by decide) ?_
    refine r_goto (tgt := 11) (pc := 7) X dX10_isNight_7 (by decide) ?_
    exact e_zret (pc := 11) X hr (by decide) hf (Nat.le_refl _) (Nat.le_refl _) dX10_isNight_11
  · refine r_iconst (v := 0) (pc := 10) X dX10_isNight_10 (by decide) ?_
    exact e_zret (pc := 11) X hr (by decide) hf (Nat.le_refl _) (Nat.le_refl _) dX10_isNight_11
/-! f_Rota_debtPaidIn -/
theorem dX5_debtPaidIn_0 : decode cX5_debtPaidIn 0 = .ok (.aload_n 0, 1) := by decide +kernel
theorem dX5_debtPaidIn_1 : decode cX5_debtPaidIn 1 = .ok (.iload_n 1, 1) := by decide +kernel
theorem dX5_debtPaidIn_2 : decode cX5_debtPaidIn 2 = .ok (.invokevirtual 48, 3) := by decide +kernel
theorem dX5_debtPaidIn_5 : decode cX5_debtPaidIn 5 = .ok (.istore_n 2, 1) := by decide +kernel
theorem dX5_debtPaidIn_6 : decode cX5_debtPaidIn 6 = .ok (.iload_n 2, 1) := by decide +kernel
theorem dX5_debtPaidIn_7 : decode cX5_debtPaidIn 7 = .ok (.iconst (-1), 1) := by decide +kernel
theorem dX5_debtPaidIn_8 : decode cX5_debtPaidIn 8 = .ok (.if_icmp .eq 19, 3) := by decide +kernel
theorem dX5_debtPaidIn_11 : decode cX5_debtPaidIn 11 = .ok (.iload_n 1, 1) := by decide +kernel
theorem dX5_debtPaidIn_12 : decode cX5_debtPaidIn 12 = .ok (.invokestatic 55, 3) := by decide +kernel
theorem dX5_debtPaidIn_15 : decode cX5_debtPaidIn 15 = .ok (.ifCond .eq 12, 3) := by decide +kernel
theorem dX5_debtPaidIn_18 : decode cX5_debtPaidIn 18 = .ok (.aload_n 0, 1) := by decide +kernel
theorem dX5_debtPaidIn_19 : decode cX5_debtPaidIn 19 = .ok (.iload_n 2, 1) := by decide +kernel
theorem dX5_debtPaidIn_20 : decode cX5_debtPaidIn 20 = .ok (.iload_n 1, 1) := by decide +kernel
theorem dX5_debtPaidIn_21 : decode cX5_debtPaidIn 21 = .ok (.invokevirtual 51, 3) := by decide +kernel
theorem dX5_debtPaidIn_24 : decode cX5_debtPaidIn 24 = .ok (.ifCond .eq 5, 3) := by decide +kernel
theorem dX5_debtPaidIn_27 : decode cX5_debtPaidIn 27 = .ok (.iconst (-1), 1) := by decide +kernel
theorem dX5_debtPaidIn_28 : decode cX5_debtPaidIn 28 = .ok (.ireturn, 1) := by decide +kernel
theorem dX5_debtPaidIn_29 : decode cX5_debtPaidIn 29 = .ok (.iconst 0, 1) := by decide +kernel
theorem dX5_debtPaidIn_30 : decode cX5_debtPaidIn 30 = .ok (.istore_n 3, 1) := by decide +kernel
theorem dX5_debtPaidIn_31 : decode cX5_debtPaidIn 31 = .ok (.iload_n 3, 1) := by decide +kernel
theorem dX5_debtPaidIn_32 : decode cX5_debtPaidIn 32 = .ok (.aload_n 0, 1) := by decide +kernel
theorem dX5_debtPaidIn_33 : decode cX5_debtPaidIn 33 = .ok (.getfield 31, 3) := by decide +kernel
theorem dX5_debtPaidIn_36 : decode cX5_debtPaidIn 36 = .ok (.if_icmp .ge 44, 3) := by decide +kernel
theorem dX5_debtPaidIn_39 : decode cX5_debtPaidIn 39 = .ok (.iload_n 3, 1) := by decide +kernel
theorem dX5_debtPaidIn_40 : decode cX5_debtPaidIn 40 = .ok (.aload_n 0, 1) := by decide +kernel
theorem dX5_debtPaidIn_41 : decode cX5_debtPaidIn 41 = .ok (.getfield 25, 3) := by decide +kernel
theorem dX5_debtPaidIn_44 : decode cX5_debtPaidIn 44 = .ok (.arraylength, 1) := by decide +kernel
theorem dX5_debtPaidIn_45 : decode cX5_debtPaidIn 45 = .ok (.if_icmp .ge 35, 3) := by decide +kernel
theorem dX5_debtPaidIn_48 : decode cX5_debtPaidIn 48 = .ok (.aload_n 0, 1) := by decide +kernel
theorem dX5_debtPaidIn_49 : decode cX5_debtPaidIn 49 = .ok (.getfield 28, 3) := by decide +kernel
theorem dX5_debtPaidIn_52 : decode cX5_debtPaidIn 52 = .ok (.iload_n 3, 1) := by decide +kernel
theorem dX5_debtPaidIn_53 : decode cX5_debtPaidIn 53 = .ok (.iaload, 1) := by decide +kernel
theorem dX5_debtPaidIn_54 : decode cX5_debtPaidIn 54 = .ok (.iload_n 2, 1) := by decide +kernel
theorem dX5_debtPaidIn_55 : decode cX5_debtPaidIn 55 = .ok (.if_icmp .ne 19, 3) := by decide +kernel
theorem dX5_debtPaidIn_58 : decode cX5_debtPaidIn 58 = .ok (.aload_n 0, 1) := by decide +kernel
theorem dX5_debtPaidIn_59 : decode cX5_debtPaidIn 59 = .ok (.aload_n 0, 1) := by decide +kernel
theorem dX5_debtPaidIn_60 : decode cX5_debtPaidIn 60 = .ok (.getfield 25, 3) := by decide +kernel
theorem dX5_debtPaidIn_63 : decode cX5_debtPaidIn 63 = .ok (.iload_n 3, 1) := by decide +kernel
theorem dX5_debtPaidIn_64 : decode cX5_debtPaidIn 64 = .ok (.iaload, 1) := by decide +kernel
theorem dX5_debtPaidIn_65 : decode cX5_debtPaidIn 65 = .ok (.iload_n 1, 1) := by decide +kernel
theorem dX5_debtPaidIn_66 : decode cX5_debtPaidIn 66 = .ok (.invokevirtual 51, 3) := by decide +kernel
theorem dX5_debtPaidIn_69 : decode cX5_debtPaidIn 69 = .ok (.ifCond .ne 5, 3) := by decide +kernel
theorem dX5_debtPaidIn_72 : decode cX5_debtPaidIn 72 = .ok (.iload_n 3, 1) := by decide +kernel
theorem dX5_debtPaidIn_73 : decode cX5_debtPaidIn 73 = .ok (.ireturn, 1) := by decide +kernel
theorem dX5_debtPaidIn_74 : decode cX5_debtPaidIn 74 = .ok (.iinc 3 1, 3) := by decide +kernel
theorem dX5_debtPaidIn_77 : decode cX5_debtPaidIn 77 = .ok (.goto (-46), 3) := by decide +kernel
theorem dX5_debtPaidIn_80 : decode cX5_debtPaidIn 80 = .ok (.iconst (-1), 1) := by decide +kernel
theorem dX5_debtPaidIn_81 : decode cX5_debtPaidIn 81 = .ok (.ireturn, 1) := by decide +kernel
def f_Rota_debtPaidIn_b31 (F : Nat) : Nat → St → Int32 → Int32 → Int32 → Option (Int32 × St)
  | 0, _, _, _, _ => none
  | n + 1, s, l1, l2, l3 =>
    if (gI s 774) ≤ l3 then
      (some ((-1), s))
    else
      (if 4000 ≤ l3 then
        (some ((-1), s))
      else
        ((ix 4000 l3).bind fun j4 => (if (gA s 17 j4) = l2 then
          ((ix 4000 l3).bind fun j5 => ((f_Rota_isOff F s (gA s 16 j5) l1).bind fun x6 => (if x6.1 = 0 then
            (some (l3, x6.2))
          else
            (f_Rota_debtPaidIn_b31 F n x6.2 l1 l2 (l3 + 1)))))
        else
          (f_Rota_debtPaidIn_b31 F n s l1 l2 (l3 + 1)))))
def f_Rota_debtPaidIn (F : Nat) (s : St) (p1 : Int32) : Option (Int32 × St) :=
  (f_Rota_plannedFor F s p1).bind fun x1 => (if x1.1 = (-1) then
    (some ((-1), x1.2))
  else
    ((f_P_isNight F x1.2 p1).bind fun x2 => (if x2.1 = 0 then
      (some ((-1), x2.2))
    else
      ((f_Rota_isOff F x2.2 x1.1 p1).bind fun x3 => (if x3.1 = 0 then
        (f_Rota_debtPaidIn_b31 F F x3.2 p1 x1.1 0)
      else
        (some ((-1), x3.2)))))))
set_option maxHeartbeats 1000000 in
theorem c_f_Rota_debtPaidIn_b31 {F : Nat} {Γ : Ga} {D : DD} {B : Nat} {r : Int32} {s' : St} (X : Cx Γ RX5 cX5_debtPaidIn 4 D B { frames := 2, cells := 0, slots := 0, locals := 44 }) (hr : (Gme Γ).sig.returnType = (some .int)) : ∀ (n : Nat) {s : St} {l1 : Int32} {l2 : Int32} {l3 : Int32}, f_Rota_debtPaidIn_b31 F n s l1 l2 l3 = some (r, s') → V Γ D B true 4 (QM Γ D B true s' (some (.int r)) 0 0) 0 0 s 31 [(0, .ref (B + 12)), (1, .int l1), (2, .int l2), (3, .int l3)] [] := by
  intro n
  induction n with
  | zero => intro s l1 l2 l3 hf; rw [f_Rota_debtPaidIn_b31] at hf; cases hf
  | succ n ih =>
    intro s l1 l2 l3 hf
    rw [f_Rota_debtPaidIn_b31] at hf
    refine r_iload_n (pc := 31) X dX5_debtPaidIn_31 3 rfl ?_
    refine r_aload_n (x := some 12) (pc := 32) X dX5_debtPaidIn_32 0 rfl ?_
    refine r_get (j := 6) (pc := 33) X ce_12 rfl inT5 (by decide) w_166 rfl dX5_debtPaidIn_33 ?_
    refine b_icmp_ge (tgt := 80) (pc := 36) X dX5_debtPaidIn_36 (by decide) hf (fun hf => ?_) (fun hf => ?_)
    · refine r_iconst (v := -1) (pc := 80) X dX5_debtPaidIn_80 (by decide) ?_
      exact e_iret (pc := 81) X hr hf (Nat.le_refl _) (Nat.le_refl _) dX5_debtPaidIn_81
    · refine r_iload_n (pc := 39) X dX5_debtPaidIn_39 3 rfl ?_
      refine r_aload_n (x := some 12) (pc := 40) X dX5_debtPaidIn_40 0 rfl ?_
      refine r_get (j := 4) (pc := 41) X ce_12 rfl inT5 (by decide) w_164 rfl dX5_debtPaidIn_41 ?_
      refine r_alen (t0 := 1) (v := 4000) (pc := 44) X ce_16 rfl (by decide) dX5_debtPaidIn_44 ?_
      refine b_icmp_ge (tgt := 80) (pc := 45) X dX5_debtPaidIn_45 (by decide) hf (fun hf => ?_) (fun hf => ?_)
      · refine r_iconst (v := -1) (pc := 80) X dX5_debtPaidIn_80 (by decide) ?_
        exact e_iret (pc := 81) X hr hf (Nat.le_refl _) (Nat.le_refl _) dX5_debtPaidIn_81
      · refine r_aload_n (x := some 12) (pc := 48) X dX5_debtPaidIn_48 0 rfl ?_
        refine r_get (j := 5) (pc := 49) X ce_12 rfl inT5 (by decide) w_165 rfl dX5_debtPaidIn_49 ?_
        refine r_iload_n (pc := 52) X dX5_debtPaidIn_52 3 rfl ?_
        refine b_iald (pc := 53) X ce_17 dX5_debtPaidIn_53 hf (fun j4 hf => ?_)
        refine r_iload_n (pc := 54) X dX5_debtPaidIn_54 2 rfl ?_
        refine b_icmp_ne (tgt := 74) (pc := 55) X dX5_debtPaidIn_55 (by decide) hf (fun hf => ?_) (fun hf => ?_)
        · refine r_aload_n (x := some 12) (pc := 58) X dX5_debtPaidIn_58 0 rfl ?_
          refine r_aload_n (x := some 12) (pc := 59) X dX5_debtPaidIn_59 0 rfl ?_
          refine r_get (j := 4) (pc := 60) X ce_12 rfl inT5 (by decide) w_164 rfl dX5_debtPaidIn_60 ?_
          refine r_iload_n (pc := 63) X dX5_debtPaidIn_63 3 rfl ?_
          refine b_iald (pc := 64) X ce_16 dX5_debtPaidIn_64 hf (fun j5 hf => ?_)
          refine r_iload_n (pc := 65) X dX5_debtPaidIn_65 1 rfl ?_
          refine bnd hf (fun x6 h6 hf => ?_)
          refine r_callVi (As := [.int (gA s 16 j5), .int l1]) (st := []) (pc := 66) X (c_f_Rota_isOff h6) rfl w_479 w_480 w_481 w_76 w_482 hdV_X5_isOff (Rc.s rfl ce_12) (by decide) (by decide) (by decide) (Nat.le_of_ble_eq_true rfl) dX5_debtPaidIn_66 rfl ?_
          refine b_if_ne (tgt := 74) (pc := 69) X dX5_debtPaidIn_69 (by decide) hf (fun hf => ?_) (fun hf => ?_)
          · refine r_iload_n (pc := 72) X dX5_debtPaidIn_72 3 rfl ?_
            exact e_iret (pc := 73) X hr hf (Nat.le_refl _) (Nat.le_refl _) dX5_debtPaidIn_73
          · refine r_iinc (v := l3 + 1) (pc := 74) X dX5_debtPaidIn_74 3 rfl rfl (by decide) [1, 2, 3, 0] rfl ?_
            refine r_goto (tgt := 31) (pc := 77) X dX5_debtPaidIn_77 (by decide) ?_
            exact ih hf
        · refine r_iinc (v := l3 + 1) (pc := 74) X dX5_debtPaidIn_74 3 rfl rfl (by decide) [1, 2, 3, 0] rfl ?_
          refine r_goto (tgt := 31) (pc := 77) X dX5_debtPaidIn_77 (by decide) ?_
          exact ih hf
set_option maxHeartbeats 1000000 in
theorem c_f_Rota_debtPaidIn {F : Nat} {s : St} {p1 : Int32} {r : Int32} {s' : St} (hf : f_Rota_debtPaidIn F s p1 = some (r, s')) : CC true yX5_debtPaidIn (Cond.code yX5_debtPaidIn cX5_debtPaidIn 4 (some .int)) 2 44 (fun B => [.ref (B + 12), .int p1]) s (fun B => (some (.int r))) s' 0 0 := by
  refine CC.of (fun B => [(0, .ref (B + 12)), (1, .int p1)]) (by decide +kernel) (fun _ => rfl) (fun _ => (by simp [lg_sl, rfB_cat, Value.category])) (fun Γ D B X hr hin => ?_)
  have X : Cx Γ RX5 cX5_debtPaidIn 4 D B { frames := 2, cells := 0, slots := 0, locals := 44 } := X
  unfold f_Rota_debtPaidIn at hf
  refine r_aload_n (x := some 12) (pc := 0) X dX5_debtPaidIn_0 0 rfl ?_
  refine r_iload_n (pc := 1) X dX5_debtPaidIn_1 1 rfl ?_
  refine bnd hf (fun x1 h1 hf => ?_)
  refine r_callVi (As := [.int p1]) (st := []) (pc := 2) X (c_f_Rota_plannedFor h1) rfl w_469 w_470 w_471 w_76 w_472 hdV_X5_plannedFor (Rc.s rfl ce_12) (by decide) (by decide) (by decide) (Nat.le_of_ble_eq_true rfl) dX5_debtPaidIn_2 rfl ?_
  refine r_istore_n (pc := 5) X dX5_debtPaidIn_5 (by decide) [1, 2, 0] rfl ?_
  refine r_iload_n (pc := 6) X dX5_debtPaidIn_6 2 rfl ?_
  refine r_iconst (v := -1) (pc := 7) X dX5_debtPaidIn_7 (by decide) ?_
  refine b_icmp_eq (tgt := 27) (pc := 8) X dX5_debtPaidIn_8 (by decide) hf (fun hf => ?_) (fun hf => ?_)
  · refine r_iconst (v := -1) (pc := 27) X dX5_debtPaidIn_27 (by decide) ?_
    exact e_iret (pc := 28) X hr hf (Nat.le_refl _) (Nat.le_refl _) dX5_debtPaidIn_28
  · refine r_iload_n (pc := 11) X dX5_debtPaidIn_11 1 rfl ?_
    refine bnd hf (fun x2 h2 hf => ?_)
    refine r_callSNi (As := [.int p1]) (st := []) (pc := 12) X (c_f_P_isNight h2) rfl wn_476 w_477 w_74 w_478 hdS_X10_isNight (by decide) (by decide) (by decide) (Nat.le_of_ble_eq_true rfl) dX5_debtPaidIn_12 rfl ?_
    refine b_if_eq (tgt := 27) (pc := 15) X dX5_debtPaidIn_15 (by decide) hf (fun hf => ?_) (fun hf => ?_)
    · refine r_iconst (v := -1) (pc := 27) X dX5_debtPaidIn_27 (by decide) ?_
      exact e_iret (pc := 28) X hr hf (Nat.le_refl _) (Nat.le_refl _) dX5_debtPaidIn_28
    · refine r_aload_n (x := some 12) (pc := 18) X dX5_debtPaidIn_18 0 rfl ?_
      refine r_iload_n (pc := 19) X dX5_debtPaidIn_19 2 rfl ?_
      refine r_iload_n (pc := 20) X dX5_debtPaidIn_20 1 rfl ?_
      refine bnd hf (fun x3 h3 hf => ?_)
      refine r_callVi (As := [.int x1.1, .int p1]) (st := []) (pc := 21) X (c_f_Rota_isOff h3) rfl w_479 w_480 w_481 w_76 w_482 hdV_X5_isOff (Rc.s rfl ce_12) (by decide) (by decide) (by decide) (Nat.le_of_ble_eq_true rfl) dX5_debtPaidIn_21 rfl ?_
      refine b_if_eq (tgt := 29) (pc := 24) X dX5_debtPaidIn_24 (by decide) hf (fun hf => ?_) (fun hf => ?_)
      · refine r_iconst (v := 0) (pc := 29) X dX5_debtPaidIn_29 (by decide) ?_
        refine r_istore_n (pc := 30) X dX5_debtPaidIn_30 (by decide) [1, 2, 3, 0] rfl ?_
        exact c_f_Rota_debtPaidIn_b31 X hr _ hf
      · refine r_iconst (v := -1) (pc := 27) X dX5_debtPaidIn_27 (by decide) ?_
        exact e_iret (pc := 28) X hr hf (Nat.le_refl _) (Nat.le_refl _) dX5_debtPaidIn_28
/-! f_Rota_holderToBe -/
theorem dX5_holderToBe_0 : decode cX5_holderToBe 0 = .ok (.aload_n 0, 1) := by decide +kernel
theorem dX5_holderToBe_1 : decode cX5_holderToBe 1 = .ok (.iload_n 1, 1) := by decide +kernel
theorem dX5_holderToBe_2 : decode cX5_holderToBe 2 = .ok (.invokevirtual 44, 3) := by decide +kernel
theorem dX5_holderToBe_5 : decode cX5_holderToBe 5 = .ok (.istore_n 2, 1) := by decide +kernel
theorem dX5_holderToBe_6 : decode cX5_holderToBe 6 = .ok (.iload_n 2, 1) := by decide +kernel
theorem dX5_holderToBe_7 : decode cX5_holderToBe 7 = .ok (.iconst 0, 1) := by decide +kernel
theorem dX5_holderToBe_8 : decode cX5_holderToBe 8 = .ok (.aload_n 0, 1) := by decide +kernel
theorem dX5_holderToBe_9 : decode cX5_holderToBe 9 = .ok (.getfield 25, 3) := by decide +kernel
theorem dX5_holderToBe_12 : decode cX5_holderToBe 12 = .ok (.arraylength, 1) := by decide +kernel
theorem dX5_holderToBe_13 : decode cX5_holderToBe 13 = .ok (.iconst 1, 1) := by decide +kernel
theorem dX5_holderToBe_14 : decode cX5_holderToBe 14 = .ok (.isub, 1) := by decide +kernel
theorem dX5_holderToBe_15 : decode cX5_holderToBe 15 = .ok (.invokestatic 40, 3) := by decide +kernel
theorem dX5_holderToBe_18 : decode cX5_holderToBe 18 = .ok (.ifCond .eq 10, 3) := by decide +kernel
theorem dX5_holderToBe_21 : decode cX5_holderToBe 21 = .ok (.aload_n 0, 1) := by decide +kernel
theorem dX5_holderToBe_22 : decode cX5_holderToBe 22 = .ok (.getfield 25, 3) := by decide +kernel
theorem dX5_holderToBe_25 : decode cX5_holderToBe 25 = .ok (.iload_n 2, 1) := by decide +kernel
theorem dX5_holderToBe_26 : decode cX5_holderToBe 26 = .ok (.iaload, 1) := by decide +kernel
theorem dX5_holderToBe_27 : decode cX5_holderToBe 27 = .ok (.ireturn, 1) := by decide +kernel
theorem dX5_holderToBe_28 : decode cX5_holderToBe 28 = .ok (.aload_n 0, 1) := by decide +kernel
theorem dX5_holderToBe_29 : decode cX5_holderToBe 29 = .ok (.iload_n 1, 1) := by decide +kernel
theorem dX5_holderToBe_30 : decode cX5_holderToBe 30 = .ok (.invokevirtual 48, 3) := by decide +kernel
theorem dX5_holderToBe_33 : decode cX5_holderToBe 33 = .ok (.istore_n 3, 1) := by decide +kernel
theorem dX5_holderToBe_34 : decode cX5_holderToBe 34 = .ok (.iconst 0, 1) := by decide +kernel
theorem dX5_holderToBe_35 : decode cX5_holderToBe 35 = .ok (.istore 4, 2) := by decide +kernel
theorem dX5_holderToBe_37 : decode cX5_holderToBe 37 = .ok (.iload 4, 2) := by decide +kernel
theorem dX5_holderToBe_39 : decode cX5_holderToBe 39 = .ok (.aload_n 0, 1) := by decide +kernel
theorem dX5_holderToBe_40 : decode cX5_holderToBe 40 = .ok (.getfield 9, 3) := by decide +kernel
theorem dX5_holderToBe_43 : decode cX5_holderToBe 43 = .ok (.if_icmp .ge 33, 3) := by decide +kernel
theorem dX5_holderToBe_46 : decode cX5_holderToBe 46 = .ok (.iload_n 3, 1) := by decide +kernel
theorem dX5_holderToBe_47 : decode cX5_holderToBe 47 = .ok (.iload 4, 2) := by decide +kernel
theorem dX5_holderToBe_49 : decode cX5_holderToBe 49 = .ok (.iadd, 1) := by decide +kernel
theorem dX5_holderToBe_50 : decode cX5_holderToBe 50 = .ok (.aload_n 0, 1) := by decide +kernel
theorem dX5_holderToBe_51 : decode cX5_holderToBe 51 = .ok (.getfield 9, 3) := by decide +kernel
theorem dX5_holderToBe_54 : decode cX5_holderToBe 54 = .ok (.irem, 1) := by decide +kernel
theorem dX5_holderToBe_55 : decode cX5_holderToBe 55 = .ok (.istore 5, 2) := by decide +kernel
theorem dX5_holderToBe_57 : decode cX5_holderToBe 57 = .ok (.aload_n 0, 1) := by decide +kernel
theorem dX5_holderToBe_58 : decode cX5_holderToBe 58 = .ok (.iload 5, 2) := by decide +kernel
theorem dX5_holderToBe_60 : decode cX5_holderToBe 60 = .ok (.iload_n 1, 1) := by decide +kernel
theorem dX5_holderToBe_61 : decode cX5_holderToBe 61 = .ok (.invokevirtual 51, 3) := by decide +kernel
theorem dX5_holderToBe_64 : decode cX5_holderToBe 64 = .ok (.ifCond .ne 6, 3) := by decide +kernel
theorem dX5_holderToBe_67 : decode cX5_holderToBe 67 = .ok (.iload 5, 2) := by decide +kernel
theorem dX5_holderToBe_69 : decode cX5_holderToBe 69 = .ok (.ireturn, 1) := by decide +kernel
theorem dX5_holderToBe_70 : decode cX5_holderToBe 70 = .ok (.iinc 4 1, 3) := by decide +kernel
theorem dX5_holderToBe_73 : decode cX5_holderToBe 73 = .ok (.goto (-36), 3) := by decide +kernel
theorem dX5_holderToBe_76 : decode cX5_holderToBe 76 = .ok (.iconst (-1), 1) := by decide +kernel
theorem dX5_holderToBe_77 : decode cX5_holderToBe 77 = .ok (.ireturn, 1) := by decide +kernel
def f_Rota_holderToBe_b37 (F : Nat) : Nat → St → Int32 → Int32 → Int32 → Option (Int32 × St)
  | 0, _, _, _, _ => none
  | n + 1, s, l1, l3, l4 =>
    if (gI s 768) ≤ l4 then
      (some ((-1), s))
    else
      (if gI s 768 = 0 then none else ((f_Rota_isOff F s ((l3 + l4) - (l3 + l4) / (gI s 768) * (gI s 768)) l1).bind fun x4 => (if x4.1 = 0 then
        (some (((l3 + l4) - (l3 + l4) / (gI s 768) * (gI s 768)), x4.2))
      else
        (f_Rota_holderToBe_b37 F n x4.2 l1 l3 (l4 + 1)))))
def f_Rota_holderToBe (F : Nat) (s : St) (p1 : Int32) : Option (Int32 × St) :=
  (f_Rota_debtPaidIn F s p1).bind fun x1 => ((f_P_isIn F x1.2 x1.1 0 ((4000 : Int32) - 1)).bind fun x2 => (if x2.1 = 0 then
    ((f_Rota_plannedFor F x2.2 p1).bind fun x3 => (f_Rota_holderToBe_b37 F F x3.2 p1 x3.1 0))
  else
    ((ix 4000 x1.1).bind fun j5 => (some ((gA x2.2 16 j5), x2.2)))))
set_option maxHeartbeats 1000000 in
theorem c_f_Rota_holderToBe_b37 {F : Nat} {Γ : Ga} {D : DD} {B : Nat} {r : Int32} {s' : St} (X : Cx Γ RX5 cX5_holderToBe 6 D B { frames := 3, cells := 0, slots := 0, locals := 67 }) (hr : (Gme Γ).sig.returnType = (some .int)) : ∀ (n : Nat) {s : St} {l1 : Int32} {l3 : Int32} {l4 : Int32}, f_Rota_holderToBe_b37 F n s l1 l3 l4 = some (r, s') → V Γ D B true 6 (QM Γ D B true s' (some (.int r)) 0 0) 0 0 s 37 [(0, .ref (B + 12)), (1, .int l1), (3, .int l3), (4, .int l4)] [] := by
  intro n
  induction n with
  | zero => intro s l1 l3 l4 hf; rw [f_Rota_holderToBe_b37] at hf; cases hf
  | succ n ih =>
    intro s l1 l3 l4 hf
    rw [f_Rota_holderToBe_b37] at hf
    refine r_iload (pc := 37) X dX5_holderToBe_37 3 rfl ?_
    refine r_aload_n (x := some 12) (pc := 39) X dX5_holderToBe_39 0 rfl ?_
    refine r_get (j := 0) (pc := 40) X ce_12 rfl inT5 (by decide) w_159 rfl dX5_holderToBe_40 ?_
    refine b_icmp_ge (tgt := 76) (pc := 43) X dX5_holderToBe_43 (by decide) hf (fun hf => ?_) (fun hf => ?_)
    · refine r_iconst (v := -1) (pc := 76) X dX5_holderToBe_76 (by decide) ?_
      exact e_iret (pc := 77) X hr hf (Nat.le_refl _) (Nat.le_refl _) dX5_holderToBe_77
    · refine r_iload_n (pc := 46) X dX5_holderToBe_46 2 rfl ?_
      refine r_iload (pc := 47) X dX5_holderToBe_47 3 rfl ?_
      refine r_iadd (pc := 49) X dX5_holderToBe_49 ?_
      refine r_aload_n (x := some 12) (pc := 50) X dX5_holderToBe_50 0 rfl ?_
      refine r_get (j := 0) (pc := 51) X ce_12 rfl inT5 (by decide) w_159 rfl dX5_holderToBe_51 ?_
      refine ifz hf (fun hne hf => ?_)
      refine r_irem (pc := 54) X dX5_holderToBe_54 hne ?_
      refine r_istore (pc := 55) X dX5_holderToBe_55 (by decide) [1, 2, 3, 4, 0] rfl ?_
      refine r_aload_n (x := some 12) (pc := 57) X dX5_holderToBe_57 0 rfl ?_
      refine r_iload (pc := 58) X dX5_holderToBe_58 4 rfl ?_
      refine r_iload_n (pc := 60) X dX5_holderToBe_60 1 rfl ?_
      refine bnd hf (fun x4 h4 hf => ?_)
      refine r_callVi (As := [.int ((l3 + l4) - (l3 + l4) / (gI s 768) * (gI s 768)), .int l1]) (st := []) (pc := 61) X (c_f_Rota_isOff h4) rfl w_479 w_480 w_481 w_76 w_482 hdV_X5_isOff (Rc.s rfl ce_12) (by decide) (by decide) (by decide) (Nat.le_of_ble_eq_true rfl) dX5_holderToBe_61 rfl ?_
      refine b_if_ne (tgt := 70) (pc := 64) X dX5_holderToBe_64 (by decide) hf (fun hf => ?_) (fun hf => ?_)
      · refine r_iload (pc := 67) X dX5_holderToBe_67 4 rfl ?_
        exact e_iret (pc := 69) X hr hf (Nat.le_refl _) (Nat.le_refl _) dX5_holderToBe_69
      · refine r_iinc (v := l4 + 1) (pc := 70) X dX5_holderToBe_70 3 rfl rfl (by decide) [1, 2, 3, 0] rfl ?_
        refine r_goto (tgt := 37) (pc := 73) X dX5_holderToBe_73 (by decide) ?_
        exact ih hf
set_option maxHeartbeats 1000000 in
theorem c_f_Rota_holderToBe {F : Nat} {s : St} {p1 : Int32} {r : Int32} {s' : St} (hf : f_Rota_holderToBe F s p1 = some (r, s')) : CC true yX5_holderToBe (Cond.code yX5_holderToBe cX5_holderToBe 6 (some .int)) 3 67 (fun B => [.ref (B + 12), .int p1]) s (fun B => (some (.int r))) s' 0 0 := by
  refine CC.of (fun B => [(0, .ref (B + 12)), (1, .int p1)]) (by decide +kernel) (fun _ => rfl) (fun _ => (by simp [lg_sl, rfB_cat, Value.category])) (fun Γ D B X hr hin => ?_)
  have X : Cx Γ RX5 cX5_holderToBe 6 D B { frames := 3, cells := 0, slots := 0, locals := 67 } := X
  unfold f_Rota_holderToBe at hf
  refine r_aload_n (x := some 12) (pc := 0) X dX5_holderToBe_0 0 rfl ?_
  refine r_iload_n (pc := 1) X dX5_holderToBe_1 1 rfl ?_
  refine bnd hf (fun x1 h1 hf => ?_)
  refine r_callVi (As := [.int p1]) (st := []) (pc := 2) X (c_f_Rota_debtPaidIn h1) rfl w_465 w_467 w_10 w_76 w_468 hdV_X5_debtPaidIn (Rc.s rfl ce_12) (by decide) (by decide) (by decide) (Nat.le_of_ble_eq_true rfl) dX5_holderToBe_2 rfl ?_
  refine r_istore_n (pc := 5) X dX5_holderToBe_5 (by decide) [1, 2, 0] rfl ?_
  refine r_iload_n (pc := 6) X dX5_holderToBe_6 2 rfl ?_
  refine r_iconst (v := 0) (pc := 7) X dX5_holderToBe_7 (by decide) ?_
  refine r_aload_n (x := some 12) (pc := 8) X dX5_holderToBe_8 0 rfl ?_
  refine r_get (j := 4) (pc := 9) X ce_12 rfl inT5 (by decide) w_164 rfl dX5_holderToBe_9 ?_
  refine r_alen (t0 := 1) (v := 4000) (pc := 12) X ce_16 rfl (by decide) dX5_holderToBe_12 ?_
  refine r_iconst (v := 1) (pc := 13) X dX5_holderToBe_13 (by decide) ?_
  refine r_isub (pc := 14) X dX5_holderToBe_14 ?_
  refine bnd hf (fun x2 h2 hf => ?_)
  refine r_callSNi (As := [.int x1.1, .int 0, .int ((4000 : Int32) - 1)]) (st := []) (pc := 15) X (c_f_P_isIn h2) rfl wn_473 w_474 w_74 w_475 hdS_X10_isIn (by decide) (by decide) (by decide) (Nat.le_of_ble_eq_true rfl) dX5_holderToBe_15 rfl ?_
  refine b_if_eq (tgt := 28) (pc := 18) X dX5_holderToBe_18 (by decide) hf (fun hf => ?_) (fun hf => ?_)
  · refine r_aload_n (x := some 12) (pc := 28) X dX5_holderToBe_28 0 rfl ?_
    refine r_iload_n (pc := 29) X dX5_holderToBe_29 1 rfl ?_
    refine bnd hf (fun x3 h3 hf => ?_)
    refine r_callVi (As := [.int p1]) (st := []) (pc := 30) X (c_f_Rota_plannedFor h3) rfl w_469 w_470 w_471 w_76 w_472 hdV_X5_plannedFor (Rc.s rfl ce_12) (by decide) (by decide) (by decide) (Nat.le_of_ble_eq_true rfl) dX5_holderToBe_30 rfl ?_
    refine r_istore_n (pc := 33) X dX5_holderToBe_33 (by decide) [1, 2, 0] rfl ?_
    refine r_iconst (v := 0) (pc := 34) X dX5_holderToBe_34 (by decide) ?_
    refine r_istore (pc := 35) X dX5_holderToBe_35 (by decide) [1, 2, 3, 0] rfl ?_
    exact c_f_Rota_holderToBe_b37 X hr _ hf
  · refine r_aload_n (x := some 12) (pc := 21) X dX5_holderToBe_21 0 rfl ?_
    refine r_get (j := 4) (pc := 22) X ce_12 rfl inT5 (by decide) w_164 rfl dX5_holderToBe_22 ?_
    refine r_iload_n (pc := 25) X dX5_holderToBe_25 2 rfl ?_
    refine b_iald (pc := 26) X ce_16 dX5_holderToBe_26 hf (fun j5 hf => ?_)
    exact e_iret (pc := 27) X hr hf (Nat.le_refl _) (Nat.le_refl _) dX5_holderToBe_27
/-! f_Rota_debtsOf -/
theorem dX5_debtsOf_0 : decode cX5_debtsOf 0 = .ok (.iconst 0, 1) := by decide +kernel
theorem dX5_debtsOf_1 : decode cX5_debtsOf 1 = .ok (.istore_n 3, 1) := by decide +kernel
theorem dX5_debtsOf_2 : decode cX5_debtsOf 2 = .ok (.iconst 0, 1) := by decide +kernel
theorem dX5_debtsOf_3 : decode cX5_debtsOf 3 = .ok (.istore 4, 2) := by decide +kernel
theorem dX5_debtsOf_5 : decode cX5_debtsOf 5 = .ok (.iload 4, 2) := by decide +kernel
theorem dX5_debtsOf_7 : decode cX5_debtsOf 7 = .ok (.aload_n 0, 1) := by decide +kernel
theorem dX5_debtsOf_8 : decode cX5_debtsOf 8 = .ok (.getfield 31, 3) := by decide +kernel
theorem dX5_debtsOf_11 : decode cX5_debtsOf 11 = .ok (.if_icmp .ge 49, 3) := by decide +kernel
theorem dX5_debtsOf_14 : decode cX5_debtsOf 14 = .ok (.iload 4, 2) := by decide +kernel
theorem dX5_debtsOf_16 : decode cX5_debtsOf 16 = .ok (.aload_n 0, 1) := by decide +kernel
theorem dX5_debtsOf_17 : decode cX5_debtsOf 17 = .ok (.getfield 25, 3) := by decide +kernel
theorem dX5_debtsOf_20 : decode cX5_debtsOf 20 = .ok (.arraylength, 1) := by decide +kernel
theorem dX5_debtsOf_21 : decode cX5_debtsOf 21 = .ok (.if_icmp .ge 39, 3) := by decide +kernel
theorem dX5_debtsOf_24 : decode cX5_debtsOf 24 = .ok (.iload_n 3, 1) := by decide +kernel
theorem dX5_debtsOf_25 : decode cX5_debtsOf 25 = .ok (.aload_n 0, 1) := by decide +kernel
theorem dX5_debtsOf_26 : decode cX5_debtsOf 26 = .ok (.getfield 25, 3) := by decide +kernel
theorem dX5_debtsOf_29 : decode cX5_debtsOf 29 = .ok (.iload 4, 2) := by decide +kernel
theorem dX5_debtsOf_31 : decode cX5_debtsOf 31 = .ok (.iaload, 1) := by decide +kernel
theorem dX5_debtsOf_32 : decode cX5_debtsOf 32 = .ok (.iload_n 1, 1) := by decide +kernel
theorem dX5_debtsOf_33 : decode cX5_debtsOf 33 = .ok (.if_icmp .ne 18, 3) := by decide +kernel
theorem dX5_debtsOf_36 : decode cX5_debtsOf 36 = .ok (.aload_n 0, 1) := by decide +kernel
theorem dX5_debtsOf_37 : decode cX5_debtsOf 37 = .ok (.getfield 28, 3) := by decide +kernel
theorem dX5_debtsOf_40 : decode cX5_debtsOf 40 = .ok (.iload 4, 2) := by decide +kernel
theorem dX5_debtsOf_42 : decode cX5_debtsOf 42 = .ok (.iaload, 1) := by decide +kernel
theorem dX5_debtsOf_43 : decode cX5_debtsOf 43 = .ok (.iload_n 2, 1) := by decide +kernel
theorem dX5_debtsOf_44 : decode cX5_debtsOf 44 = .ok (.if_icmp .ne 7, 3) := by decide +kernel
theorem dX5_debtsOf_47 : decode cX5_debtsOf 47 = .ok (.iconst 1, 1) := by decide +kernel
theorem dX5_debtsOf_48 : decode cX5_debtsOf 48 = .ok (.goto 4, 3) := by decide +kernel
theorem dX5_debtsOf_51 : decode cX5_debtsOf 51 = .ok (.iconst 0, 1) := by decide +kernel
theorem dX5_debtsOf_52 : decode cX5_debtsOf 52 = .ok (.iadd, 1) := by decide +kernel
theorem dX5_debtsOf_53 : decode cX5_debtsOf 53 = .ok (.istore_n 3, 1) := by decide +kernel
theorem dX5_debtsOf_54 : decode cX5_debtsOf 54 = .ok (.iinc 4 1, 3) := by decide +kernel
theorem dX5_debtsOf_57 : decode cX5_debtsOf 57 = .ok (.goto (-52), 3) := by decide +kernel
theorem dX5_debtsOf_60 : decode cX5_debtsOf 60 = .ok (.iload_n 3, 1) := by decide +kernel
theorem dX5_debtsOf_61 : decode cX5_debtsOf 61 = .ok (.ireturn, 1) := by decide +kernel
def f_Rota_debtsOf_b5 (F : Nat) : Nat → St → Int32 → Int32 → Int32 → Int32 → Option (Int32 × St)
  | 0, _, _, _, _, _ => none
  | n + 1, s, l1, l2, l3, l4 =>
    if (gI s 774) ≤ l4 then
      (some (l3, s))
    else
      (if 4000 ≤ l4 then
        (some (l3, s))
      else
        ((ix 4000 l4).bind fun j1 => (if (gA s 16 j1) = l1 then
          ((ix 4000 l4).bind fun j2 => (if (gA s 17 j2) = l2 then
            (f_Rota_debtsOf_b5 F n s l1 l2 (l3 + 1) (l4 + 1))
          else
            (f_Rota_debtsOf_b5 F n s l1 l2 (l3 + 0) (l4 + 1))))
        else
          (f_Rota_debtsOf_b5 F n s l1 l2 (l3 + 0) (l4 + 1)))))
def f_Rota_debtsOf (F : Nat) (s : St) (p1 : Int32) (p2 : Int32) : Option (Int32 × St) :=
  f_Rota_debtsOf_b5 F F s p1 p2 0 0
set_option maxHeartbeats 1000000 in
theorem c_f_Rota_debtsOf_b5 {F : Nat} {Γ : Ga} {D : DD} {B : Nat} {r : Int32} {s' : St} (X : Cx Γ RX5 cX5_debtsOf 5 D B { frames := 0, cells := 0, slots := 0, locals := 0 }) (hr : (Gme Γ).sig.returnType = (some .int)) : ∀ (n : Nat) {s : St} {l1 : Int32} {l2 : Int32} {l3 : Int32} {l4 : Int32}, f_Rota_debtsOf_b5 F n s l1 l2 l3 l4 = some (r, s') → V Γ D B true 5 (QM Γ D B true s' (some (.int r)) 0 0) 0 0 s 5 [(0, .ref (B + 12)), (1, .int l1), (2, .int l2), (3, .int l3), (4, .int l4)] [] := by
  intro n
  induction n with
  | zero => intro s l1 l2 l3 l4 hf; rw [f_Rota_debtsOf_b5] at hf; cases hf
  | succ n ih =>
    intro s l1 l2 l3 l4 hf
    rw [f_Rota_debtsOf_b5] at hf
    refine r_iload (pc := 5) X dX5_debtsOf_5 4 rfl ?_
    refine r_aload_n (x := some 12) (pc := 7) X dX5_debtsOf_7 0 rfl ?_
    refine r_get (j := 6) (pc := 8) X ce_12 rfl inT5 (by decide) w_166 rfl dX5_debtsOf_8 ?_
    refine b_icmp_ge (tgt := 60) (pc := 11) X dX5_debtsOf_11 (by decide) hf (fun hf => ?_) (fun hf => ?_)
    · refine r_iload_n (pc := 60) X dX5_debtsOf_60 3 rfl ?_
      exact e_iret (pc := 61) X hr hf (Nat.le_refl _) (Nat.le_refl _) dX5_debtsOf_61
    · refine r_iload (pc := 14) X dX5_debtsOf_14 4 rfl ?_
      refine r_aload_n (x := some 12) (pc := 16) X dX5_debtsOf_16 0 rfl ?_
      refine r_get (j := 4) (pc := 17) X ce_12 rfl inT5 (by decide) w_164 rfl dX5_debtsOf_17 ?_
      refine r_alen (t0 := 1) (v := 4000) (pc := 20) X ce_16 rfl (by decide) dX5_debtsOf_20 ?_
      refine b_icmp_ge (tgt := 60) (pc := 21) X dX5_debtsOf_21 (by decide) hf (fun hf => ?_) (fun hf => ?_)
      · refine r_iload_n (pc := 60) X dX5_debtsOf_60 3 rfl ?_
        exact e_iret (pc := 61) X hr hf (Nat.le_refl _) (Nat.le_refl _) dX5_debtsOf_61
      · refine r_iload_n (pc := 24) X dX5_debtsOf_24 3 rfl ?_
        refine r_aload_n (x := some 12) (pc := 25) X dX5_debtsOf_25 0 rfl ?_
        refine r_get (j := 4) (pc := 26) X ce_12 rfl inT5 (by decide) w_164 rfl dX5_debtsOf_26 ?_
        refine r_iload (pc := 29) X dX5_debtsOf_29 4 rfl ?_
        refine b_iald (pc := 31) X ce_16 dX5_debtsOf_31 hf (fun j1 hf => ?_)
        refine r_iload_n (pc := 32) X dX5_debtsOf_32 1 rfl ?_
        refine b_icmp_ne (tgt := 51) (pc := 33) X dX5_debtsOf_33 (by decide) hf (fun hf => ?_) (fun hf => ?_)
        · refine r_aload_n (x := some 12) (pc := 36) X dX5_debtsOf_36 0 rfl ?_
          refine r_get (j := 5) (pc := 37) X ce_12 rfl inT5 (by decide) w_165 rfl dX5_debtsOf_37 ?_
          refine r_iload (pc := 40) X dX5_debtsOf_40 4 rfl ?_
          refine b_iald (pc := 42) X ce_17 dX5_debtsOf_42 hf (fun j2 hf => ?_)
          refine r_iload_n (pc := 43) X dX5_debtsOf_43 2 rfl ?_
          refine b_icmp_ne (tgt := 51) (pc := 44) X dX5_debtsOf_44 (by decide) hf (fun hf => ?_) (fun hf => ?_)
          · refine r_iconst (v := 1) (pc := 47) X dX5_debtsOf_47 (by decide) ?_
            refine r_goto (tgt := 52) (pc := 48) X dX5_debtsOf_48 (by decide) ?_
            refine r_iadd (pc := 52) X dX5_debtsOf_52 ?_
            refine r_istore_n (pc := 53) X dX5_debtsOf_53 (by decide) [1, 2, 3, 0, 4] rfl ?_
            refine r_iinc (v := l4 + 1) (pc := 54) X dX5_debtsOf_54 4 rfl rfl (by decide) [1, 2, 3, 4, 0] rfl ?_
            refine r_goto (tgt := 5) (pc := 57) X dX5_debtsOf_57 (by decide) ?_
            exact ih hf
          · refine r_iconst (v := 0) (pc := 51) X dX5_debtsOf_51 (by decide) ?_
            refine r_iadd (pc := 52) X dX5_debtsOf_52 ?_
            refine r_istore_n (pc := 53) X dX5_debtsOf_53 (by decide) [1, 2, 3, 0, 4] rfl ?_
            refine r_iinc (v := l4 + 1) (pc := 54) X dX5_debtsOf_54 4 rfl rfl (by decide) [1, 2, 3, 4, 0] rfl ?_
            refine r_goto (tgt := 5) (pc := 57) X dX5_debtsOf_57 (by decide) ?_
            exact ih hf
        · refine r_iconst (v := 0) (pc := 51) X dX5_debtsOf_51 (by decide) ?_
          refine r_iadd (pc := 52) X dX5_debtsOf_52 ?_
          refine r_istore_n (pc := 53) X dX5_debtsOf_53 (by decide) [1, 2, 3, 0, 4] rfl ?_
          refine r_iinc (v := l4 + 1) (pc := 54) X dX5_debtsOf_54 4 rfl rfl (by decide) [1, 2, 3, 4, 0] rfl ?_
          refine r_goto (tgt := 5) (pc := 57) X dX5_debtsOf_57 (by decide) ?_
          exact ih hf
set_option maxHeartbeats 1000000 in
theorem c_f_Rota_debtsOf {F : Nat} {s : St} {p1 : Int32} {p2 : Int32} {r : Int32} {s' : St} (hf : f_Rota_debtsOf F s p1 p2 = some (r, s')) : CC true yX5_debtsOf (Cond.code yX5_debtsOf cX5_debtsOf 5 (some .int)) 0 0 (fun B => [.ref (B + 12), .int p1, .int p2]) s (fun B => (some (.int r))) s' 0 0 := by
  refine CC.of (fun B => [(0, .ref (B + 12)), (1, .int p1), (2, .int p2)]) (by decide +kernel) (fun _ => rfl) (fun _ => (by simp [lg_sl, rfB_cat, Value.category])) (fun Γ D B X hr hin => ?_)
  have X : Cx Γ RX5 cX5_debtsOf 5 D B { frames := 0, cells := 0, slots := 0, locals := 0 } := X
  unfold f_Rota_debtsOf at hf
  refine r_iconst (v := 0) (pc := 0) X dX5_debtsOf_0 (by decide) ?_
  refine r_istore_n (pc := 1) X dX5_debtsOf_1 (by decide) [1, 2, 3, 0] rfl ?_
  refine r_iconst (v := 0) (pc := 2) X dX5_debtsOf_2 (by decide) ?_
  refine r_istore (pc := 3) X dX5_debtsOf_3 (by decide) [1, 2, 3, 4, 0] rfl ?_
  exact c_f_Rota_debtsOf_b5 X hr _ hf
