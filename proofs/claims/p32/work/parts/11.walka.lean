/-! f_P_clearText -/
theorem dX10_clearText_0 : decode cX10_clearText 0 = .ok (.aload_n 0, 1) := by decide +kernel
theorem dX10_clearText_1 : decode cX10_clearText 1 = .ok (.getfield 13, 3) := by decide +kernel
theorem dX10_clearText_4 : decode cX10_clearText 4 = .ok (.istore_n 1, 1) := by decide +kernel
theorem dX10_clearText_5 : decode cX10_clearText 5 = .ok (.aload_n 0, 1) := by decide +kernel
theorem dX10_clearText_6 : decode cX10_clearText 6 = .ok (.iconst 0, 1) := by decide +kernel
theorem dX10_clearText_7 : decode cX10_clearText 7 = .ok (.putfield 13, 3) := by decide +kernel
theorem dX10_clearText_10 : decode cX10_clearText 10 = .ok (.iload_n 1, 1) := by decide +kernel
theorem dX10_clearText_11 : decode cX10_clearText 11 = .ok (.ireturn, 1) := by decide +kernel
def f_P_clearText (F : Nat) (s : St)  : Option (Int32 × St) :=
  lt (sI s 1 0) fun s1 => (some ((gI s 1), s1))
set_option maxHeartbeats 1000000 in
theorem c_f_P_clearText {F : Nat} {s : St}  {r : Int32} {s' : St} (hf : f_P_clearText F s  = some (r, s')) : CC true yX10_clearText (Cond.code yX10_clearText cX10_clearText 2 (some .int)) 0 0 (fun B => [.ref (B + 0)]) s (fun B => (some (.int r))) s' 0 0 := by
  refine CC.of (fun B => [(0, .ref (B + 0))]) (by decide +kernel) (fun _ => rfl) (fun _ => (by simp [lg_sl, rfB_cat, catI, catL, catR])) (fun Γ D B X hr hin => ?_)
  have X : Cx Γ RX10 cX10_clearText 2 D B { frames := 0, cells := 0, slots := 0, locals := 0 } := X
  unfold f_P_clearText at hf
  refine r_aload_n (x := some 0) (pc := 0) X dX10_clearText_0 0 rfl ?_
  refine r_get (j := 1) (pc := 1) X ce_0 rfl inT10 (by decide) w_281 rfl dX10_clearText_1 ?_
  refine r_istore_n (pc := 4) (lv' := [(0, .ref (B + 0)), (1, .int (gI s 1))]) X dX10_clearText_4 (by decide) [1, 0] rfl ?_
  refine r_aload_n (x := some 0) (pc := 5) X dX10_clearText_5 0 rfl ?_
  refine r_iconst (v := 0) (pc := 6) X dX10_clearText_6 (by decide) ?_
  refine b_put (j := 1) (pc := 7) X ce_0 rfl inT10 tyX10 tyX10_ok nmX10 (by decide) w_281 rfl (tyX10_ok 1 (by decide)) rfl rfl (Nat.le_of_ble_eq_true rfl) (cp_1 _) rfl rfl dX10_clearText_7 hf (fun s1 hf => ?_)
  refine r_iload_n (pc := 10) X dX10_clearText_10 1 rfl ?_
  exact e_iret (pc := 11) X hr hf (Nat.le_refl _) (Nat.le_refl _) dX10_clearText_11
/-! f_Reader_here -/
theorem dX4_here_0 : decode cX4_here 0 = .ok (.aload_n 0, 1) := by decide +kernel
theorem dX4_here_1 : decode cX4_here 1 = .ok (.getfield 19, 3) := by decide +kernel
theorem dX4_here_4 : decode cX4_here 4 = .ok (.ifCond .lt 38, 3) := by decide +kernel
theorem dX4_here_7 : decode cX4_here 7 = .ok (.aload_n 0, 1) := by decide +kernel
theorem dX4_here_8 : decode cX4_here 8 = .ok (.getfield 19, 3) := by decide +kernel
theorem dX4_here_11 : decode cX4_here 11 = .ok (.aload_n 0, 1) := by decide +kernel
theorem dX4_here_12 : decode cX4_here 12 = .ok (.getfield 15, 3) := by decide +kernel
theorem dX4_here_15 : decode cX4_here 15 = .ok (.if_icmp .ge 27, 3) := by decide +kernel
theorem dX4_here_18 : decode cX4_here 18 = .ok (.aload_n 0, 1) := by decide +kernel
theorem dX4_here_19 : decode cX4_here 19 = .ok (.getfield 19, 3) := by decide +kernel
theorem dX4_here_22 : decode cX4_here 22 = .ok (.aload_n 0, 1) := by decide +kernel
theorem dX4_here_23 : decode cX4_here 23 = .ok (.getfield 9, 3) := by decide +kernel
theorem dX4_here_26 : decode cX4_here 26 = .ok (.arraylength, 1) := by decide +kernel
theorem dX4_here_27 : decode cX4_here 27 = .ok (.if_icmp .ge 15, 3) := by decide +kernel
theorem dX4_here_30 : decode cX4_here 30 = .ok (.aload_n 0, 1) := by decide +kernel
theorem dX4_here_31 : decode cX4_here 31 = .ok (.getfield 9, 3) := by decide +kernel
theorem dX4_here_34 : decode cX4_here 34 = .ok (.aload_n 0, 1) := by decide +kernel
theorem dX4_here_35 : decode cX4_here 35 = .ok (.getfield 19, 3) := by decide +kernel
theorem dX4_here_38 : decode cX4_here 38 = .ok (.caload, 1) := by decide +kernel
theorem dX4_here_39 : decode cX4_here 39 = .ok (.goto 4, 3) := by decide +kernel
theorem dX4_here_42 : decode cX4_here 42 = .ok (.iconst 0, 1) := by decide +kernel
theorem dX4_here_43 : decode cX4_here 43 = .ok (.ireturn, 1) := by decide +kernel
def f_Reader_here (F : Nat) (s : St)  : Option (Int32 × St) :=
  if (gI s 1538) < 0 then
    (some (0, s))
  else
    (if (gI s 1537) ≤ (gI s 1538) then
      (some (0, s))
    else
      (if gR s 1536 = some 1 then (if 40 ≤ (gI s 1538) then
        (some (0, s))
      else
        (if gR s 1536 = some 1 then ((ix 40 (gI s 1538)).bind fun j1 => (some ((gA s 1 j1), s))) else none)) else none))
set_option maxHeartbeats 1000000 in
theorem c_f_Reader_here {F : Nat} {s : St}  {r : Int32} {s' : St} (hf : f_Reader_here F s  = some (r, s')) : CC true yX4_here (Cond.code yX4_here cX4_here 1 (some .int)) 0 0 (fun B => [.ref (B + 24)]) s (fun B => (some (.int r))) s' 0 0 := by
  refine CC.of (fun B => [(0, .ref (B + 24))]) (by decide +kernel) (fun _ => rfl) (fun _ => (by simp [lg_sl, rfB_cat, catI, catL, catR])) (fun Γ D B X hr hin => ?_)
  have X : Cx Γ RX4 cX4_here 1 D B { frames := 0, cells := 0, slots := 0, locals := 0 } := X
  unfold f_Reader_here at hf
  refine r_aload_n (x := some 24) (pc := 0) X dX4_here_0 0 rfl ?_
  refine r_get (j := 2) (pc := 1) X ce_24 rfl inT4 (by decide) w_188 rfl dX4_here_1 ?_
  refine b_if_lt (tgt := 42) (pc := 4) X dX4_here_4 (by decide) hf (fun hf => ?_) (fun hf => ?_)
  · refine r_iconst (v := 0) (pc := 42) X dX4_here_42 (by decide) ?_
    exact e_iret (pc := 43) X hr hf (Nat.le_refl _) (Nat.le_refl _) dX4_here_43
  · refine r_aload_n (x := some 24) (pc := 7) X dX4_here_7 0 rfl ?_
    refine r_get (j := 2) (pc := 8) X ce_24 rfl inT4 (by decide) w_188 rfl dX4_here_8 ?_
    refine r_aload_n (x := some 24) (pc := 11) X dX4_here_11 0 rfl ?_
    refine r_get (j := 1) (pc := 12) X ce_24 rfl inT4 (by decide) w_187 rfl dX4_here_12 ?_
    refine b_icmp_ge (tgt := 42) (pc := 15) X dX4_here_15 (by decide) hf (fun hf => ?_) (fun hf => ?_)
    · refine r_iconst (v := 0) (pc := 42) X dX4_here_42 (by decide) ?_
      exact e_iret (pc := 43) X hr hf (Nat.le_refl _) (Nat.le_refl _) dX4_here_43
    · refine r_aload_n (x := some 24) (pc := 18) X dX4_here_18 0 rfl ?_
      refine r_get (j := 2) (pc := 19) X ce_24 rfl inT4 (by decide) w_188 rfl dX4_here_19 ?_
      refine r_aload_n (x := some 24) (pc := 22) X dX4_here_22 0 rfl ?_
      refine r_get (j := 0) (pc := 23) X ce_24 rfl inT4 (by decide) w_186 rfl dX4_here_23 ?_
      refine b_eqs hf (fun hf => ?_)
      refine r_alen (t0 := 0) (v := 40) (pc := 26) X ce_1 rfl (by decide) dX4_here_26 ?_
      refine b_icmp_ge (tgt := 42) (pc := 27) X dX4_here_27 (by decide) hf (fun hf => ?_) (fun hf => ?_)
      · refine r_iconst (v := 0) (pc := 42) X dX4_here_42 (by decide) ?_
        exact e_iret (pc := 43) X hr hf (Nat.le_refl _) (Nat.le_refl _) dX4_here_43
      · refine r_aload_n (x := some 24) (pc := 30) X dX4_here_30 0 rfl ?_
        refine r_get (j := 0) (pc := 31) X ce_24 rfl inT4 (by decide) w_186 rfl dX4_here_31 ?_
        refine b_eqs hf (fun hf => ?_)
        refine r_aload_n (x := some 24) (pc := 34) X dX4_here_34 0 rfl ?_
        refine r_get (j := 2) (pc := 35) X ce_24 rfl inT4 (by decide) w_188 rfl dX4_here_35 ?_
        refine b_cald (pc := 38) X ce_1 dX4_here_38 hf (fun j1 hf => ?_)
        refine r_goto (tgt := 43) (pc := 39) X dX4_here_39 (by decide) ?_
        exact e_iret (pc := 43) X hr hf (Nat.le_refl _) (Nat.le_refl _) dX4_here_43
/-! f_P_isIn -/
theorem dX10_isIn_0 : decode cX10_isIn 0 = .ok (.iload_n 0, 1) := by decide +kernel
theorem dX10_isIn_1 : decode cX10_isIn 1 = .ok (.iload_n 1, 1) := by decide +kernel
theorem dX10_isIn_2 : decode cX10_isIn 2 = .ok (.if_icmp .lt 12, 3) := by decide +kernel
theorem dX10_isIn_5 : decode cX10_isIn 5 = .ok (.iload_n 0, 1) := by decide +kernel
theorem dX10_isIn_6 : decode cX10_isIn 6 = .ok (.iload_n 2, 1) := by decide +kernel
theorem dX10_isIn_7 : decode cX10_isIn 7 = .ok (.if_icmp .gt 7, 3) := by decide +kernel
theorem dX10_isIn_10 : decode cX10_isIn 10 = .ok (.iconst 1, 1) := by decide +kernel
theorem dX10_isIn_11 : decode cX10_isIn 11 = .ok (.goto 4, 3) := by decide +kernel
theorem dX10_isIn_14 : decode cX10_isIn 14 = .ok (.iconst 0, 1) := by decide +kernel
theorem dX10_isIn_15 : decode cX10_isIn 15 = .ok (.ireturn, 1) := by decide +kernel
def f_P_isIn (F : Nat) (s : St) (p0 : Int32) (p1 : Int32) (p2 : Int32) : Option (Int32 × St) :=
  if p0 < p1 then
    (some (0, s))
  else
    (if p2 < p0 then
      (some (0, s))
    else
      (some (1, s)))
set_option maxHeartbeats 1000000 in
theorem c_f_P_isIn {F : Nat} {s : St} {p0 : Int32} {p1 : Int32} {p2 : Int32} {r : Int32} {s' : St} (hf : f_P_isIn F s p0 p1 p2 = some (r, s')) : CC true yX10_isIn (Cond.code yX10_isIn cX10_isIn 3 (some .boolean)) 0 0 (fun B => [.int p0, .int p1, .int p2]) s (fun B => (some (.int r))) s' 0 0 := by
  refine CC.of (fun B => [(0, .int p0), (1, .int p1), (2, .int p2)]) (by decide +kernel) (fun _ => rfl) (fun _ => (by simp [lg_sl, rfB_cat, catI, catL, catR])) (fun Γ D B X hr hin => ?_)
  have X : Cx Γ RX10 cX10_isIn 3 D B { frames := 0, cells := 0, slots := 0, locals := 0 } := X
  unfold f_P_isIn at hf
  refine r_iload_n (pc := 0) X dX10_isIn_0 0 rfl ?_
  refine r_iload_n (pc := 1) X dX10_isIn_1 1 rfl ?_
  refine b_icmp_lt (tgt := 14) (pc := 2) X dX10_isIn_2 (by decide) hf (fun hf => ?_) (fun hf => ?_)
  · refine r_iconst (v := 0) (pc := 14) X dX10_isIn_14 (by decide) ?_
    exact e_zret (pc := 15) X hr (by decide) hf (Nat.le_refl _) (Nat.le_refl _) dX10_isIn_15
  · refine r_iload_n (pc := 5) X dX10_isIn_5 0 rfl ?_
    refine r_iload_n (pc := 6) X dX10_isIn_6 2 rfl ?_
    refine b_icmp_gt (tgt := 14) (pc := 7) X dX10_isIn_7 (by decide) hf (fun hf => ?_) (fun hf => ?_)
    · refine r_iconst (v := 0) (pc := 14) X dX10_isIn_14 (by decide) ?_
      exact e_zret (pc := 15) X hr (by decide) hf (Nat.le_refl _) (Nat.le_refl _) dX10_isIn_15
    · refine r_iconst (v := 1) (pc := 10) X dX10_isIn_10 (by decide) ?_
      refine r_goto (tgt := 15) (pc := 11) X dX10_isIn_11 (by decide) ?_
      exact e_zret (pc := 15) X hr (by decide) hf (Nat.le_refl _) (Nat.le_refl _) dX10_isIn_15
/-! f_P_isRange -/
theorem dX10_isRange_0 : decode cX10_isRange 0 = .ok (.iload_n 0, 1) := by decide +kernel
theorem dX10_isRange_1 : decode cX10_isRange 1 = .ok (.iload_n 2, 1) := by decide +kernel
theorem dX10_isRange_2 : decode cX10_isRange 2 = .ok (.iload_n 3, 1) := by decide +kernel
theorem dX10_isRange_3 : decode cX10_isRange 3 = .ok (.invokestatic 128, 3) := by decide +kernel
theorem dX10_isRange_6 : decode cX10_isRange 6 = .ok (.ifCond .eq 16, 3) := by decide +kernel
theorem dX10_isRange_9 : decode cX10_isRange 9 = .ok (.iload_n 1, 1) := by decide +kernel
theorem dX10_isRange_10 : decode cX10_isRange 10 = .ok (.iload_n 0, 1) := by decide +kernel
theorem dX10_isRange_11 : decode cX10_isRange 11 = .ok (.iload_n 3, 1) := by decide +kernel
theorem dX10_isRange_12 : decode cX10_isRange 12 = .ok (.invokestatic 128, 3) := by decide +kernel
theorem dX10_isRange_15 : decode cX10_isRange 15 = .ok (.ifCond .eq 7, 3) := by decide +kernel
theorem dX10_isRange_18 : decode cX10_isRange 18 = .ok (.iconst 1, 1) := by decide +kernel
theorem dX10_isRange_19 : decode cX10_isRange 19 = .ok (.goto 4, 3) := by decide +kernel
theorem dX10_isRange_22 : decode cX10_isRange 22 = .ok (.iconst 0, 1) := by decide +kernel
theorem dX10_isRange_23 : decode cX10_isRange 23 = .ok (.ireturn, 1) := by decide +kernel
def f_P_isRange (F : Nat) (s : St) (p0 : Int32) (p1 : Int32) (p2 : Int32) (p3 : Int32) : Option (Int32 × St) :=
  (f_P_isIn F s p0 p2 p3).bind fun x1 => (if x1.1 = 0 then
    (some (0, x1.2))
  else
    ((f_P_isIn F x1.2 p1 p0 p3).bind fun x2 => (if x2.1 = 0 then
      (some (0, x2.2))
    else
      (some (1, x2.2)))))
set_option maxHeartbeats 1000000 in
theorem c_f_P_isRange {F : Nat} {s : St} {p0 : Int32} {p1 : Int32} {p2 : Int32} {p3 : Int32} {r : Int32} {s' : St} (hf : f_P_isRange F s p0 p1 p2 p3 = some (r, s')) : CC true yX10_isRange (Cond.code yX10_isRange cX10_isRange 4 (some .boolean)) 1 22 (fun B => [.int p0, .int p1, .int p2, .int p3]) s (fun B => (some (.int r))) s' 0 0 := by
  refine CC.of (fun B => [(0, .int p0), (1, .int p1), (2, .int p2), (3, .int p3)]) (by decide +kernel) (fun _ => rfl) (fun _ => (by simp [lg_sl, rfB_cat, catI, catL, catR])) (fun Γ D B X hr hin => ?_)
  have X : Cx Γ RX10 cX10_isRange 4 D B { frames := 1, cells := 0, slots := 0, locals := 22 } := X
  unfold f_P_isRange at hf
  refine r_iload_n (pc := 0) X dX10_isRange_0 0 rfl ?_
  refine r_iload_n (pc := 1) X dX10_isRange_1 2 rfl ?_
  refine r_iload_n (pc := 2) X dX10_isRange_2 3 rfl ?_
  refine bnd hf (fun x1 h1 hf => ?_)
  refine r_callSi (As := [.int p0, .int p2, .int p3]) (st := []) (pc := 3) X (c_f_P_isIn h1) rfl w_483 w_342 w_36 w_343 hdS_X10_isIn (by decide) (by decide) (by decide) (Nat.le_of_ble_eq_true rfl) dX10_isRange_3 rfl ?_
  refine b_if_eq (tgt := 22) (pc := 6) X dX10_isRange_6 (by decide) hf (fun hf => ?_) (fun hf => ?_)
  · refine r_iconst (v := 0) (pc := 22) X dX10_isRange_22 (by decide) ?_
    exact e_zret (pc := 23) X hr (by decide) hf (Nat.le_refl _) (Nat.le_refl _) dX10_isRange_23
  · refine r_iload_n (pc := 9) X dX10_isRange_9 1 rfl ?_
    refine r_iload_n (pc := 10) X dX10_isRange_10 0 rfl ?_
    refine r_iload_n (pc := 11) X dX10_isRange_11 3 rfl ?_
    refine bnd hf (fun x2 h2 hf => ?_)
    refine r_callSi (As := [.int p1, .int p0, .int p3]) (st := []) (pc := 12) X (c_f_P_isIn h2) rfl w_483 w_342 w_36 w_343 hdS_X10_isIn (by decide) (by decide) (by decide) (Nat.le_of_ble_eq_true rfl) dX10_isRange_12 rfl ?_
    refine b_if_eq (tgt := 22) (pc := 15) X dX10_isRange_15 (by decide) hf (fun hf => ?_) (fun hf => ?_)
    · refine r_iconst (v := 0) (pc := 22) X dX10_isRange_22 (by decide) ?_
      exact e_zret (pc := 23) X hr (by decide) hf (Nat.le_refl _) (Nat.le_refl _) dX10_isRange_23
    · refine r_iconst (v := 1) (pc := 18) X dX10_isRange_18 (by decide) ?_
      refine r_goto (tgt := 23) (pc := 19) X dX10_isRange_19 (by decide) ?_
      exact e_zret (pc := 23) X hr (by decide) hf (Nat.le_refl _) (Nat.le_refl _) dX10_isRange_23
/-! f_P_now -/
theorem dX10_now_0 : decode cX10_now 0 = .ok (.aload_n 0, 1) := by decide +kernel
theorem dX10_now_1 : decode cX10_now 1 = .ok (.getfield 17, 3) := by decide +kernel
theorem dX10_now_4 : decode cX10_now 4 = .ok (.ireturn, 1) := by decide +kernel
def f_P_now (F : Nat) (s : St)  : Option (Int32 × St) :=
  some ((gI s 2), s)
set_option maxHeartbeats 1000000 in
theorem c_f_P_now {F : Nat} {s : St}  {r : Int32} {s' : St} (hf : f_P_now F s  = some (r, s')) : CC true yX10_now (Cond.code yX10_now cX10_now 1 (some .int)) 0 0 (fun B => [.ref (B + 0)]) s (fun B => (some (.int r))) s' 0 0 := by
  refine CC.of (fun B => [(0, .ref (B + 0))]) (by decide +kernel) (fun _ => rfl) (fun _ => (by simp [lg_sl, rfB_cat, catI, catL, catR])) (fun Γ D B X hr hin => ?_)
  have X : Cx Γ RX10 cX10_now 1 D B { frames := 0, cells := 0, slots := 0, locals := 0 } := X
  unfold f_P_now at hf
  refine r_aload_n (x := some 0) (pc := 0) X dX10_now_0 0 rfl ?_
  refine r_get (j := 2) (pc := 1) X ce_0 rfl inT10 (by decide) w_282 rfl dX10_now_1 ?_
  exact e_iret (pc := 4) X hr hf (Nat.le_refl _) (Nat.le_refl _) dX10_now_4
/-! f_Rota_hasPerson -/
theorem dX5_hasPerson_0 : decode cX5_hasPerson 0 = .ok (.iload_n 1, 1) := by decide +kernel
theorem dX5_hasPerson_1 : decode cX5_hasPerson 1 = .ok (.ifCond .lt 15, 3) := by decide +kernel
theorem dX5_hasPerson_4 : decode cX5_hasPerson 4 = .ok (.iload_n 1, 1) := by decide +kernel
theorem dX5_hasPerson_5 : decode cX5_hasPerson 5 = .ok (.aload_n 0, 1) := by decide +kernel
theorem dX5_hasPerson_6 : decode cX5_hasPerson 6 = .ok (.getfield 9, 3) := by decide +kernel
theorem dX5_hasPerson_9 : decode cX5_hasPerson 9 = .ok (.if_icmp .ge 7, 3) := by decide +kernel
theorem dX5_hasPerson_12 : decode cX5_hasPerson 12 = .ok (.iconst 1, 1) := by decide +kernel
theorem dX5_hasPerson_13 : decode cX5_hasPerson 13 = .ok (.goto 4, 3) := by decide +kernel
theorem dX5_hasPerson_16 : decode cX5_hasPerson 16 = .ok (.iconst 0, 1) := by decide +kernel
theorem dX5_hasPerson_17 : decode cX5_hasPerson 17 = .ok (.ireturn, 1) := by decide +kernel
def f_Rota_hasPerson (F : Nat) (s : St) (p1 : Int32) : Option (Int32 × St) :=
  if p1 < 0 then
    (some (0, s))
  else
    (if (gI s 768) ≤ p1 then
      (some (0, s))
    else
      (some (1, s)))
set_option maxHeartbeats 1000000 in
theorem c_f_Rota_hasPerson {F : Nat} {s : St} {p1 : Int32} {r : Int32} {s' : St} (hf : f_Rota_hasPerson F s p1 = some (r, s')) : CC true yX5_hasPerson (Cond.code yX5_hasPerson cX5_hasPerson 2 (some .boolean)) 0 0 (fun B => [.ref (B + 12), .int p1]) s (fun B => (some (.int r))) s' 0 0 := by
  refine CC.of (fun B => [(0, .ref (B + 12)), (1, .int p1)]) (by decide +kernel) (fun _ => rfl) (fun _ => (by simp [lg_sl, rfB_cat, catI, catL, catR])) (fun Γ D B X hr hin => ?_)
  have X : Cx Γ RX5 cX5_hasPerson 2 D B { frames := 0, cells := 0, slots := 0, locals := 0 } := X
  unfold f_Rota_hasPerson at hf
  refine r_iload_n (pc := 0) X dX5_hasPerson_0 1 rfl ?_
  refine b_if_lt (tgt := 16) (pc := 1) X dX5_hasPerson_1 (by decide) hf (fun hf => ?_) (fun hf => ?_)
  · refine r_iconst (v := 0) (pc := 16) X dX5_hasPerson_16 (by decide) ?_
    exact e_zret (pc := 17) X hr (by decide) hf (Nat.le_refl _) (Nat.le_refl _) dX5_hasPerson_17
  · refine r_iload_n (pc := 4) X dX5_hasPerson_4 1 rfl ?_
    refine r_aload_n (x := some 12) (pc := 5) X dX5_hasPerson_5 0 rfl ?_
    refine r_get (j := 0) (pc := 6) X ce_12 rfl inT5 (by decide) w_120 rfl dX5_hasPerson_6 ?_
    refine b_icmp_ge (tgt := 16) (pc := 9) X dX5_hasPerson_9 (by decide) hf (fun hf => ?_) (fun hf => ?_)
    · refine r_iconst (v := 0) (pc := 16) X dX5_hasPerson_16 (by decide) ?_
      exact e_zret (pc := 17) X hr (by decide) hf (Nat.le_refl _) (Nat.le_refl _) dX5_hasPerson_17
    · refine r_iconst (v := 1) (pc := 12) X dX5_hasPerson_12 (by decide) ?_
      refine r_goto (tgt := 17) (pc := 13) X dX5_hasPerson_13 (by decide) ?_
      exact e_zret (pc := 17) X hr (by decide) hf (Nat.le_refl _) (Nat.le_refl _) dX5_hasPerson_17
/-! f_P_isToCome -/
theorem dX10_isToCome_0 : decode cX10_isToCome 0 = .ok (.iload_n 1, 1) := by decide +kernel
theorem dX10_isToCome_1 : decode cX10_isToCome 1 = .ok (.aload_n 0, 1) := by decide +kernel
theorem dX10_isToCome_2 : decode cX10_isToCome 2 = .ok (.getfield 17, 3) := by decide +kernel
theorem dX10_isToCome_5 : decode cX10_isToCome 5 = .ok (.bipush 8, 2) := by decide +kernel
theorem dX10_isToCome_7 : decode cX10_isToCome 7 = .ok (.idiv, 1) := by decide +kernel
theorem dX10_isToCome_8 : decode cX10_isToCome 8 = .ok (.if_icmp .le 13, 3) := by decide +kernel
theorem dX10_isToCome_11 : decode cX10_isToCome 11 = .ok (.iload_n 1, 1) := by decide +kernel
theorem dX10_isToCome_12 : decode cX10_isToCome 12 = .ok (.bipush 126, 2) := by decide +kernel
theorem dX10_isToCome_14 : decode cX10_isToCome 14 = .ok (.if_icmp .ge 7, 3) := by decide +kernel
theorem dX10_isToCome_17 : decode cX10_isToCome 17 = .ok (.iconst 1, 1) := by decide +kernel
theorem dX10_isToCome_18 : decode cX10_isToCome 18 = .ok (.goto 4, 3) := by decide +kernel
theorem dX10_isToCome_21 : decode cX10_isToCome 21 = .ok (.iconst 0, 1) := by decide +kernel
theorem dX10_isToCome_22 : decode cX10_isToCome 22 = .ok (.ireturn, 1) := by decide +kernel
def f_P_isToCome (F : Nat) (s : St) (p1 : Int32) : Option (Int32 × St) :=
  if p1 ≤ ((gI s 2) / 8) then
    (some (0, s))
  else
    (if 126 ≤ p1 then
      (some (0, s))
    else
      (some (1, s)))
set_option maxHeartbeats 1000000 in
theorem c_f_P_isToCome {F : Nat} {s : St} {p1 : Int32} {r : Int32} {s' : St} (hf : f_P_isToCome F s p1 = some (r, s')) : CC true yX10_isToCome (Cond.code yX10_isToCome cX10_isToCome 2 (some .boolean)) 0 0 (fun B => [.ref (B + 0), .int p1]) s (fun B => (some (.int r))) s' 0 0 := by
  refine CC.of (fun B => [(0, .ref (B + 0)), (1, .int p1)]) (by decide +kernel) (fun _ => rfl) (fun _ => (by simp [lg_sl, rfB_cat, catI, catL, catR])) (fun Γ D B X hr hin => ?_)
  have X : Cx Γ RX10 cX10_isToCome 2 D B { frames := 0, cells := 0, slots := 0, locals := 0 } := X
  unfold f_P_isToCome at hf
  refine r_iload_n (pc := 0) X dX10_isToCome_0 1 rfl ?_
  refine r_aload_n (x := some 0) (pc := 1) X dX10_isToCome_1 0 rfl ?_
  refine r_get (j := 2) (pc := 2) X ce_0 rfl inT10 (by decide) w_282 rfl dX10_isToCome_2 ?_
  refine r_bipush (v := 8) (pc := 5) X dX10_isToCome_5 (by decide) ?_
  refine r_idiv (pc := 7) X dX10_isToCome_7 (by decide) ?_
  refine b_icmp_le (tgt := 21) (pc := 8) X dX10_isToCome_8 (by decide) hf (fun hf => ?_) (fun hf => ?_)
  · refine r_iconst (v := 0) (pc := 21) X dX10_isToCome_21 (by decide) ?_
    exact e_zret (pc := 22) X hr (by decide) hf (Nat.le_refl _) (Nat.le_refl _) dX10_isToCome_22
  · refine r_iload_n (pc := 11) X dX10_isToCome_11 1 rfl ?_
    refine r_bipush (v := 126) (pc := 12) X dX10_isToCome_12 (by decide) ?_
    refine b_icmp_ge (tgt := 21) (pc := 14) X dX10_isToCome_14 (by decide) hf (fun hf => ?_) (fun hf => ?_)
    · refine r_iconst (v := 0) (pc := 21) X dX10_isToCome_21 (by decide) ?_
      exact e_zret (pc := 22) X hr (by decide) hf (Nat.le_refl _) (Nat.le_refl _) dX10_isToCome_22
    · refine r_iconst (v := 1) (pc := 17) X dX10_isToCome_17 (by decide) ?_
      refine r_goto (tgt := 22) (pc := 18) X dX10_isToCome_18 (by decide) ?_
      exact e_zret (pc := 22) X hr (by decide) hf (Nat.le_refl _) (Nat.le_refl _) dX10_isToCome_22
/-! f_Rota_plannedFor -/
theorem dX5_plannedFor_0 : decode cX5_plannedFor 0 = .ok (.iload_n 1, 1) := by decide +kernel
theorem dX5_plannedFor_1 : decode cX5_plannedFor 1 = .ok (.iconst 0, 1) := by decide +kernel
theorem dX5_plannedFor_2 : decode cX5_plannedFor 2 = .ok (.bipush 125, 2) := by decide +kernel
theorem dX5_plannedFor_4 : decode cX5_plannedFor 4 = .ok (.invokestatic 40, 3) := by decide +kernel
theorem dX5_plannedFor_7 : decode cX5_plannedFor 7 = .ok (.ifCond .eq 10, 3) := by decide +kernel
theorem dX5_plannedFor_10 : decode cX5_plannedFor 10 = .ok (.aload_n 0, 1) := by decide +kernel
theorem dX5_plannedFor_11 : decode cX5_plannedFor 11 = .ok (.getfield 9, 3) := by decide +kernel
theorem dX5_plannedFor_14 : decode cX5_plannedFor 14 = .ok (.ifCond .gt 5, 3) := by decide +kernel
theorem dX5_plannedFor_17 : decode cX5_plannedFor 17 = .ok (.iconst (-1), 1) := by decide +kernel
theorem dX5_plannedFor_18 : decode cX5_plannedFor 18 = .ok (.ireturn, 1) := by decide +kernel
theorem dX5_plannedFor_19 : decode cX5_plannedFor 19 = .ok (.aload_n 0, 1) := by decide +kernel
theorem dX5_plannedFor_20 : decode cX5_plannedFor 20 = .ok (.getfield 15, 3) := by decide +kernel
theorem dX5_plannedFor_23 : decode cX5_plannedFor 23 = .ok (.iload_n 1, 1) := by decide +kernel
theorem dX5_plannedFor_24 : decode cX5_plannedFor 24 = .ok (.iaload, 1) := by decide +kernel
theorem dX5_plannedFor_25 : decode cX5_plannedFor 25 = .ok (.iconst (-1), 1) := by decide +kernel
theorem dX5_plannedFor_26 : decode cX5_plannedFor 26 = .ok (.if_icmp .eq 12, 3) := by decide +kernel
theorem dX5_plannedFor_29 : decode cX5_plannedFor 29 = .ok (.aload_n 0, 1) := by decide +kernel
theorem dX5_plannedFor_30 : decode cX5_plannedFor 30 = .ok (.getfield 15, 3) := by decide +kernel
theorem dX5_plannedFor_33 : decode cX5_plannedFor 33 = .ok (.iload_n 1, 1) := by decide +kernel
theorem dX5_plannedFor_34 : decode cX5_plannedFor 34 = .ok (.iaload, 1) := by decide +kernel
theorem dX5_plannedFor_35 : decode cX5_plannedFor 35 = .ok (.goto 9, 3) := by decide +kernel
theorem dX5_plannedFor_38 : decode cX5_plannedFor 38 = .ok (.iload_n 1, 1) := by decide +kernel
theorem dX5_plannedFor_39 : decode cX5_plannedFor 39 = .ok (.aload_n 0, 1) := by decide +kernel
theorem dX5_plannedFor_40 : decode cX5_plannedFor 40 = .ok (.getfield 9, 3) := by decide +kernel
theorem dX5_plannedFor_43 : decode cX5_plannedFor 43 = .ok (.irem, 1) := by decide +kernel
theorem dX5_plannedFor_44 : decode cX5_plannedFor 44 = .ok (.ireturn, 1) := by decide +kernel
def f_Rota_plannedFor (F : Nat) (s : St) (p1 : Int32) : Option (Int32 × St) :=
  (f_P_isIn F s p1 0 125).bind fun x1 => (if x1.1 = 0 then
    (some ((-1), x1.2))
  else
    (if 0 < (gI x1.2 768) then
      ((ix 126 p1).bind fun j2 => (if (gA x1.2 13 j2) = (-1) then
        (if gI x1.2 768 = 0 then none else (some ((p1 - p1 / (gI x1.2 768) * (gI x1.2 768)), x1.2)))
      else
        ((ix 126 p1).bind fun j3 => (some ((gA x1.2 13 j3), x1.2)))))
    else
      (some ((-1), x1.2))))
set_option maxHeartbeats 1000000 in
theorem c_f_Rota_plannedFor {F : Nat} {s : St} {p1 : Int32} {r : Int32} {s' : St} (hf : f_Rota_plannedFor F s p1 = some (r, s')) : CC true yX5_plannedFor (Cond.code yX5_plannedFor cX5_plannedFor 2 (some .int)) 1 22 (fun B => [.ref (B + 12), .int p1]) s (fun B => (some (.int r))) s' 0 0 := by
  refine CC.of (fun B => [(0, .ref (B + 12)), (1, .int p1)]) (by decide +kernel) (fun _ => rfl) (fun _ => (by simp [lg_sl, rfB_cat, catI, catL, catR])) (fun Γ D B X hr hin => ?_)
  have X : Cx Γ RX5 cX5_plannedFor 2 D B { frames := 1, cells := 0, slots := 0, locals := 22 } := X
  unfold f_Rota_plannedFor at hf
  refine r_iload_n (pc := 0) X dX5_plannedFor_0 1 rfl ?_
  refine r_iconst (v := 0) (pc := 1) X dX5_plannedFor_1 (by decide) ?_
  refine r_bipush (v := 125) (pc := 2) X dX5_plannedFor_2 (by decide) ?_
  refine bnd hf (fun x1 h1 hf => ?_)
  refine r_callSNi (As := [.int p1, .int 0, .int 125]) (st := []) (pc := 4) X (c_f_P_isIn h1) rfl wn_341 w_342 w_36 w_343 hdS_X10_isIn (by decide) (by decide) (by decide) (Nat.le_of_ble_eq_true rfl) dX5_plannedFor_4 rfl ?_
  refine b_if_eq (tgt := 17) (pc := 7) X dX5_plannedFor_7 (by decide) hf (fun hf => ?_) (fun hf => ?_)
  · refine r_iconst (v := -1) (pc := 17) X dX5_plannedFor_17 (by decide) ?_
    exact e_iret (pc := 18) X hr hf (Nat.le_refl _) (Nat.le_refl _) dX5_plannedFor_18
  · refine r_aload_n (x := some 12) (pc := 10) X dX5_plannedFor_10 0 rfl ?_
    refine r_get (j := 0) (pc := 11) X ce_12 rfl inT5 (by decide) w_120 rfl dX5_plannedFor_11 ?_
    refine b_if_gt (tgt := 19) (pc := 14) X dX5_plannedFor_14 (by decide) hf (fun hf => ?_) (fun hf => ?_)
    · refine r_aload_n (x := some 12) (pc := 19) X dX5_plannedFor_19 0 rfl ?_
      refine r_get (j := 1) (pc := 20) X ce_12 rfl inT5 (by decide) w_122 rfl dX5_plannedFor_20 ?_
      refine r_iload_n (pc := 23) X dX5_plannedFor_23 1 rfl ?_
      refine b_iald (pc := 24) X ce_13 dX5_plannedFor_24 hf (fun j2 hf => ?_)
      refine r_iconst (v := -1) (pc := 25) X dX5_plannedFor_25 (by decide) ?_
      refine b_icmp_eq (tgt := 38) (pc := 26) X dX5_plannedFor_26 (by decide) hf (fun hf => ?_) (fun hf => ?_)
      · refine r_iload_n (pc := 38) X dX5_plannedFor_38 1 rfl ?_
        refine r_aload_n (x := some 12) (pc := 39) X dX5_plannedFor_39 0 rfl ?_
        refine r_get (j := 0) (pc := 40) X ce_12 rfl inT5 (by decide) w_120 rfl dX5_plannedFor_40 ?_
        refine ifz hf (fun hne hf => ?_)
        refine r_irem (pc := 43) X dX5_plannedFor_43 hne ?_
        exact e_iret (pc := 44) X hr hf (Nat.le_refl _) (Nat.le_refl _) dX5_plannedFor_44
      · refine r_aload_n (x := some 12) (pc := 29) X dX5_plannedFor_29 0 rfl ?_
        refine r_get (j := 1) (pc := 30) X ce_12 rfl inT5 (by decide) w_122 rfl dX5_plannedFor_30 ?_
        refine r_iload_n (pc := 33) X dX5_plannedFor_33 1 rfl ?_
        refine b_iald (pc := 34) X ce_13 dX5_plannedFor_34 hf (fun j3 hf => ?_)
        refine r_goto (tgt := 44) (pc := 35) X dX5_plannedFor_35 (by decide) ?_
        exact e_iret (pc := 44) X hr hf (Nat.le_refl _) (Nat.le_refl _) dX5_plannedFor_44
    · refine r_iconst (v := -1) (pc := 17) X dX5_plannedFor_17 (by decide) ?_
      exact e_iret (pc := 18) X hr hf (Nat.le_refl _) (Nat.le_refl _) dX5_plannedFor_18
/-! f_P_isNight -/
theorem dX10_isNight_0 : decode cX10_isNight 0 = .ok (.iload_n 0, 1) := by decide +kernel
theorem dX10_isNight_1 : decode cX10_isNight 1 = .ok (.iconst 3, 1) := by decide +kernel
theorem dX10_isNight_2 : decode cX10_isNight 2 = .ok (.irem, 1) := by decide +kernel
theorem dX10_isNight_3 : decode cX10_isNight 3 = .ok (.ifCond .ne 7, 3) := by decide +kernel
theorem dX10_isNight_6 : decode cX10_isNight 6 = .ok (.iconst 1, 1) := by decide +kernel
theorem dX10_isNight_7 : decode cX10_isNight 7 = .ok (.goto 4, 3) := by decide +kernel
theorem dX10_isNight_10 : decode cX10_isNight 10 = .ok (.iconst 0, 1) := by decide +kernel
theorem dX10_isNight_11 : decode cX10_isNight 11 = .ok (.ireturn, 1) := by decide +kernel
def f_P_isNight (F : Nat) (s : St) (p0 : Int32) : Option (Int32 × St) :=
  if (p0 - p0 / 3 * 3) = 0 then
    (some (1, s))
  else
    (some (0, s))
set_option maxHeartbeats 1000000 in
theorem c_f_P_isNight {F : Nat} {s : St} {p0 : Int32} {r : Int32} {s' : St} (hf : f_P_isNight F s p0 = some (r, s')) : CC true yX10_isNight (Cond.code yX10_isNight cX10_isNight 1 (some .boolean)) 0 0 (fun B => [.int p0]) s (fun B => (some (.int r))) s' 0 0 := by
  refine CC.of (fun B => [(0, .int p0)]) (by decide +kernel) (fun _ => rfl) (fun _ => (by simp [lg_sl, rfB_cat, catI, catL, catR])) (fun Γ D B X hr hin => ?_)
  have X : Cx Γ RX10 cX10_isNight 1 D B { frames := 0, cells := 0, slots := 0, locals := 0 } := X
  unfold f_P_isNight at hf
  refine r_iload_n (pc := 0) X dX10_isNight_0 0 rfl ?_
  refine r_iconst (v := 3) (pc := 1) X dX10_isNight_1 (by decide) ?_
  refine r_irem (pc := 2) X dX10_isNight_2 (by decide) ?_
  refine b_if_ne (tgt := 10) (pc := 3) X dX10_isNight_3 (by decide) hf (fun hf => ?_) (fun hf => ?_)
  · refine r_iconst (v := 1) (pc := 6) X dX10_isNight_6 (by decide) ?_
    refine r_goto (tgt := 11) (pc := 7) X dX10_isNight_7 (by decide) ?_
    exact e_zret (pc := 11) X hr (by decide) hf (Nat.le_refl _) (Nat.le_refl _) dX10_isNight_11
  · refine r_iconst (v := 0) (pc := 10) X dX10_isNight_10 (by decide) ?_
    exact e_zret (pc := 11) X hr (by decide) hf (Nat.le_refl _) (Nat.le_refl _) dX10_isNight_11
/-! f_Rota_isOff -/
theorem dX5_isOff_0 : decode cX5_isOff 0 = .ok (.iload_n 2, 1) := by decide +kernel
theorem dX5_isOff_1 : decode cX5_isOff 1 = .ok (.iconst 0, 1) := by decide +kernel
theorem dX5_isOff_2 : decode cX5_isOff 2 = .ok (.bipush 125, 2) := by decide +kernel
theorem dX5_isOff_4 : decode cX5_isOff 4 = .ok (.invokestatic 40, 3) := by decide +kernel
theorem dX5_isOff_7 : decode cX5_isOff 7 = .ok (.ifCond .eq 20, 3) := by decide +kernel
theorem dX5_isOff_10 : decode cX5_isOff 10 = .ok (.aload_n 0, 1) := by decide +kernel
theorem dX5_isOff_11 : decode cX5_isOff 11 = .ok (.getfield 19, 3) := by decide +kernel
theorem dX5_isOff_14 : decode cX5_isOff 14 = .ok (.iload_n 2, 1) := by decide +kernel
theorem dX5_isOff_15 : decode cX5_isOff 15 = .ok (.iaload, 1) := by decide +kernel
theorem dX5_isOff_16 : decode cX5_isOff 16 = .ok (.iload_n 1, 1) := by decide +kernel
theorem dX5_isOff_17 : decode cX5_isOff 17 = .ok (.ishr, 1) := by decide +kernel
theorem dX5_isOff_18 : decode cX5_isOff 18 = .ok (.iconst 1, 1) := by decide +kernel
theorem dX5_isOff_19 : decode cX5_isOff 19 = .ok (.iand, 1) := by decide +kernel
theorem dX5_isOff_20 : decode cX5_isOff 20 = .ok (.ifCond .eq 7, 3) := by decide +kernel
theorem dX5_isOff_23 : decode cX5_isOff 23 = .ok (.iconst 1, 1) := by decide +kernel
theorem dX5_isOff_24 : decode cX5_isOff 24 = .ok (.goto 4, 3) := by decide +kernel
theorem dX5_isOff_27 : decode cX5_isOff 27 = .ok (.iconst 0, 1) := by decide +kernel
theorem dX5_isOff_28 : decode cX5_isOff 28 = .ok (.ireturn, 1) := by decide +kernel
def f_Rota_isOff (F : Nat) (s : St) (p1 : Int32) (p2 : Int32) : Option (Int32 × St) :=
  (f_P_isIn F s p2 0 125).bind fun x1 => (if x1.1 = 0 then
    (some (0, x1.2))
  else
    ((ix 126 p2).bind fun j2 => (if (((gA x1.2 14 j2) >>> (p1 &&& 31)) &&& 1) = 0 then
      (some (0, x1.2))
    else
      (some (1, x1.2)))))
set_option maxHeartbeats 1000000 in
theorem c_f_Rota_isOff {F : Nat} {s : St} {p1 : Int32} {p2 : Int32} {r : Int32} {s' : St} (hf : f_Rota_isOff F s p1 p2 = some (r, s')) : CC true yX5_isOff (Cond.code yX5_isOff cX5_isOff 3 (some .boolean)) 1 22 (fun B => [.ref (B + 12), .int p1, .int p2]) s (fun B => (some (.int r))) s' 0 0 := by
  refine CC.of (fun B => [(0, .ref (B + 12)), (1, .int p1), (2, .int p2)]) (by decide +kernel) (fun _ => rfl) (fun _ => (by simp [lg_sl, rfB_cat, catI, catL, catR])) (fun Γ D B X hr hin => ?_)
  have X : Cx Γ RX5 cX5_isOff 3 D B { frames := 1, cells := 0, slots := 0, locals := 22 } := X
  unfold f_Rota_isOff at hf
  refine r_iload_n (pc := 0) X dX5_isOff_0 2 rfl ?_
  refine r_iconst (v := 0) (pc := 1) X dX5_isOff_1 (by decide) ?_
  refine r_bipush (v := 125) (pc := 2) X dX5_isOff_2 (by decide) ?_
  refine bnd hf (fun x1 h1 hf => ?_)
  refine r_callSNi (As := [.int p2, .int 0, .int 125]) (st := []) (pc := 4) X (c_f_P_isIn h1) rfl wn_341 w_342 w_36 w_343 hdS_X10_isIn (by decide) (by decide) (by decide) (Nat.le_of_ble_eq_true rfl) dX5_isOff_4 rfl ?_
  refine b_if_eq (tgt := 27) (pc := 7) X dX5_isOff_7 (by decide) hf (fun hf => ?_) (fun hf => ?_)
  · refine r_iconst (v := 0) (pc := 27) X dX5_isOff_27 (by decide) ?_
    exact e_zret (pc := 28) X hr (by decide) hf (Nat.le_refl _) (Nat.le_refl _) dX5_isOff_28
  · refine r_aload_n (x := some 12) (pc := 10) X dX5_isOff_10 0 rfl ?_
    refine r_get (j := 2) (pc := 11) X ce_12 rfl inT5 (by decide) w_123 rfl dX5_isOff_11 ?_
    refine r_iload_n (pc := 14) X dX5_isOff_14 2 rfl ?_
    refine b_iald (pc := 15) X ce_14 dX5_isOff_15 hf (fun j2 hf => ?_)
    refine r_iload_n (pc := 16) X dX5_isOff_16 1 rfl ?_
    refine r_ishr (pc := 17) X dX5_isOff_17 ?_
    refine r_iconst (v := 1) (pc := 18) X dX5_isOff_18 (by decide) ?_
    refine r_iand (pc := 19) X dX5_isOff_19 ?_
    refine b_if_eq (tgt := 27) (pc := 20) X dX5_isOff_20 (by decide) hf (fun hf => ?_) (fun hf => ?_)
    · refine r_iconst (v := 0) (pc := 27) X dX5_isOff_27 (by decide) ?_
      exact e_zret (pc := 28) X hr (by decide) hf (Nat.le_refl _) (Nat.le_refl _) dX5_isOff_28
    · refine r_iconst (v := 1) (pc := 23) X dX5_isOff_23 (by decide) ?_
      refine r_goto (tgt := 28) (pc := 24) X dX5_isOff_24 (by decide) ?_
      exact e_zret (pc := 28) X hr (by decide) hf (Nat.le_refl _) (Nat.le_refl _) dX5_isOff_28
/-! f_Rota_debtPaidIn -/
theorem dX5_debtPaidIn_0 : decode cX5_debtPaidIn 0 = .ok (.aload_n 0, 1) := by decide +kernel
theorem dX5_debtPaidIn_1 : decode cX5_debtPaidIn 1 = .ok (.iload_n 1, 1) := by decide +kernel
theorem dX5_debtPaidIn_2 : decode cX5_debtPaidIn 2 = .ok (.invokevirtual 48, 3) := by decide +kernel
theorem dX5_debtPaidIn_5 : decode cX5_debtPaidIn 5 = .ok (.istore_n 2, 1) := by decide +kernel
theorem dX5_debtPaidIn_6 : decode cX5_debtPaidIn 6 = .ok (.iload_n 2, 1) := by decide +kernel
theorem dX5_debtPaidIn_7 : decode cX5_debtPaidIn 7 = .ok (.iconst (-1), 1) := by decide +kernel
theorem dX5_debtPaidIn_8 : decode cX5_debtPaidIn 8 = .ok (.if_icmp .eq 19, 3) := by decide +kernel
theorem dX5_debtPaidIn_11 : decode cX5_debtPaidIn 11 = .ok (.iload_n 1, 1) := by decide +kernel
theorem dX5_debtPaidIn_12 : decode cX5_debtPaidIn 12 = .ok (.invokestatic 55, 3) := by decide +kernel
theorem dX5_debtPaidIn_15 : decode cX5_debtPaidIn 15 = .ok (.ifCond .eq 12, 3) := by decide +kernel
theorem dX5_debtPaidIn_18 : decode cX5_debtPaidIn 18 = .ok (.aload_n 0, 1) := by decide +kernel
theorem dX5_debtPaidIn_19 : decode cX5_debtPaidIn 19 = .ok (.iload_n 2, 1) := by decide +kernel
theorem dX5_debtPaidIn_20 : decode cX5_debtPaidIn 20 = .ok (.iload_n 1, 1) := by decide +kernel
theorem dX5_debtPaidIn_21 : decode cX5_debtPaidIn 21 = .ok (.invokevirtual 51, 3) := by decide +kernel
theorem dX5_debtPaidIn_24 : decode cX5_debtPaidIn 24 = .ok (.ifCond .eq 5, 3) := by decide +kernel
theorem dX5_debtPaidIn_27 : decode cX5_debtPaidIn 27 = .ok (.iconst (-1), 1) := by decide +kernel
theorem dX5_debtPaidIn_28 : decode cX5_debtPaidIn 28 = .ok (.ireturn, 1) := by decide +kernel
theorem dX5_debtPaidIn_29 : decode cX5_debtPaidIn 29 = .ok (.iconst 0, 1) := by decide +kernel
theorem dX5_debtPaidIn_30 : decode cX5_debtPaidIn 30 = .ok (.istore_n 3, 1) := by decide +kernel
theorem dX5_debtPaidIn_31 : decode cX5_debtPaidIn 31 = .ok (.iload_n 3, 1) := by decide +kernel
theorem dX5_debtPaidIn_32 : decode cX5_debtPaidIn 32 = .ok (.aload_n 0, 1) := by decide +kernel
theorem dX5_debtPaidIn_33 : decode cX5_debtPaidIn 33 = .ok (.getfield 31, 3) := by decide +kernel
theorem dX5_debtPaidIn_36 : decode cX5_debtPaidIn 36 = .ok (.if_icmp .ge 44, 3) := by decide +kernel
theorem dX5_debtPaidIn_39 : decode cX5_debtPaidIn 39 = .ok (.iload_n 3, 1) := by decide +kernel
theorem dX5_debtPaidIn_40 : decode cX5_debtPaidIn 40 = .ok (.aload_n 0, 1) := by decide +kernel
theorem dX5_debtPaidIn_41 : decode cX5_debtPaidIn 41 = .ok (.getfield 25, 3) := by decide +kernel
theorem dX5_debtPaidIn_44 : decode cX5_debtPaidIn 44 = .ok (.arraylength, 1) := by decide +kernel
theorem dX5_debtPaidIn_45 : decode cX5_debtPaidIn 45 = .ok (.if_icmp .ge 35, 3) := by decide +kernel
theorem dX5_debtPaidIn_48 : decode cX5_debtPaidIn 48 = .ok (.aload_n 0, 1) := by decide +kernel
theorem dX5_debtPaidIn_49 : decode cX5_debtPaidIn 49 = .ok (.getfield 28, 3) := by decide +kernel
theorem dX5_debtPaidIn_52 : decode cX5_debtPaidIn 52 = .ok (.iload_n 3, 1) := by decide +kernel
theorem dX5_debtPaidIn_53 : decode cX5_debtPaidIn 53 = .ok (.iaload, 1) := by decide +kernel
theorem dX5_debtPaidIn_54 : decode cX5_debtPaidIn 54 = .ok (.iload_n 2, 1) := by decide +kernel
theorem dX5_debtPaidIn_55 : decode cX5_debtPaidIn 55 = .ok (.if_icmp .ne 19, 3) := by decide +kernel
theorem dX5_debtPaidIn_58 : decode cX5_debtPaidIn 58 = .ok (.aload_n 0, 1) := by decide +kernel
theorem dX5_debtPaidIn_59 : decode cX5_debtPaidIn 59 = .ok (.aload_n 0, 1) := by decide +kernel
theorem dX5_debtPaidIn_60 : decode cX5_debtPaidIn 60 = .ok (.getfield 25, 3) := by decide +kernel
theorem dX5_debtPaidIn_63 : decode cX5_debtPaidIn 63 = .ok (.iload_n 3, 1) := by decide +kernel
theorem dX5_debtPaidIn_64 : decode cX5_debtPaidIn 64 = .ok (.iaload, 1) := by decide +kernel
theorem dX5_debtPaidIn_65 : decode cX5_debtPaidIn 65 = .ok (.iload_n 1, 1) := by decide +kernel
theorem dX5_debtPaidIn_66 : decode cX5_debtPaidIn 66 = .ok (.invokevirtual 51, 3) := by decide +kernel
theorem dX5_debtPaidIn_69 : decode cX5_debtPaidIn 69 = .ok (.ifCond .ne 5, 3) := by decide +kernel
theorem dX5_debtPaidIn_72 : decode cX5_debtPaidIn 72 = .ok (.iload_n 3, 1) := by decide +kernel
theorem dX5_debtPaidIn_73 : decode cX5_debtPaidIn 73 = .ok (.ireturn, 1) := by decide +kernel
theorem dX5_debtPaidIn_74 : decode cX5_debtPaidIn 74 = .ok (.iinc 3 1, 3) := by decide +kernel
theorem dX5_debtPaidIn_77 : decode cX5_debtPaidIn 77 = .ok (.goto (-46), 3) := by decide +kernel
theorem dX5_debtPaidIn_80 : decode cX5_debtPaidIn 80 = .ok (.iconst (-1), 1) := by decide +kernel
theorem dX5_debtPaidIn_81 : decode cX5_debtPaidIn 81 = .ok (.ireturn, 1) := by decide +kernel
def f_Rota_debtPaidIn_b31 (F : Nat) : Nat → St → Int32 → Int32 → Int32 → Option (Int32 × St)
  | 0, _, _, _, _ => none
  | n + 1, s, l1, l2, l3 =>
    if (gI s 774) ≤ l3 then
      (some ((-1), s))
    else
      (if 4000 ≤ l3 then
        (some ((-1), s))
      else
        ((ix 4000 l3).bind fun j4 => (if (gA s 17 j4) = l2 then
          ((ix 4000 l3).bind fun j5 => ((f_Rota_isOff F s (gA s 16 j5) l1).bind fun x6 => (if x6.1 = 0 then
            (some (l3, x6.2))
          else
            (f_Rota_debtPaidIn_b31 F n x6.2 l1 l2 (l3 + 1)))))
        else
          (f_Rota_debtPaidIn_b31 F n s l1 l2 (l3 + 1)))))
def f_Rota_debtPaidIn (F : Nat) (s : St) (p1 : Int32) : Option (Int32 × St) :=
  (f_Rota_plannedFor F s p1).bind fun x1 => (if x1.1 = (-1) then
    (some ((-1), x1.2))
  else
    ((f_P_isNight F x1.2 p1).bind fun x2 => (if x2.1 = 0 then
      (some ((-1), x2.2))
    else
      ((f_Rota_isOff F x2.2 x1.1 p1).bind fun x3 => (if x3.1 = 0 then
        (f_Rota_debtPaidIn_b31 F F x3.2 p1 x1.1 0)
      else
        (some ((-1), x3.2)))))))
set_option maxHeartbeats 1000000 in
theorem c_f_Rota_debtPaidIn_b31 {F : Nat} {Γ : Ga} {D : DD} {B : Nat} {r : Int32} {s' : St} (X : Cx Γ RX5 cX5_debtPaidIn 4 D B { frames := 2, cells := 0, slots := 0, locals := 44 }) (hr : (Gme Γ).sig.returnType = (some .int)) : ∀ (n : Nat) {s : St} {l1 : Int32} {l2 : Int32} {l3 : Int32}, f_Rota_debtPaidIn_b31 F n s l1 l2 l3 = some (r, s') → V Γ D B true 4 (QM Γ D B true s' (some (.int r)) 0 0) 0 0 s 31 [(0, .ref (B + 12)), (1, .int l1), (2, .int l2), (3, .int l3)] [] := by
  intro n
  induction n with
  | zero => intro s l1 l2 l3 hf; rw [f_Rota_debtPaidIn_b31] at hf; cases hf
  | succ n ih =>
    intro s l1 l2 l3 hf
    rw [f_Rota_debtPaidIn_b31] at hf
    refine r_iload_n (pc := 31) X dX5_debtPaidIn_31 3 rfl ?_
    refine r_aload_n (x := some 12) (pc := 32) X dX5_debtPaidIn_32 0 rfl ?_
    refine r_get (j := 6) (pc := 33) X ce_12 rfl inT5 (by decide) w_127 rfl dX5_debtPaidIn_33 ?_
    refine b_icmp_ge (tgt := 80) (pc := 36) X dX5_debtPaidIn_36 (by decide) hf (fun hf => ?_) (fun hf => ?_)
    · refine r_iconst (v := -1) (pc := 80) X dX5_debtPaidIn_80 (by decide) ?_
      exact e_iret (pc := 81) X hr hf (Nat.le_refl _) (Nat.le_refl _) dX5_debtPaidIn_81
    · refine r_iload_n (pc := 39) X dX5_debtPaidIn_39 3 rfl ?_
      refine r_aload_n (x := some 12) (pc := 40) X dX5_debtPaidIn_40 0 rfl ?_
      refine r_get (j := 4) (pc := 41) X ce_12 rfl inT5 (by decide) w_125 rfl dX5_debtPaidIn_41 ?_
      refine r_alen (t0 := 1) (v := 4000) (pc := 44) X ce_16 rfl (by decide) dX5_debtPaidIn_44 ?_
      refine b_icmp_ge (tgt := 80) (pc := 45) X dX5_debtPaidIn_45 (by decide) hf (fun hf => ?_) (fun hf => ?_)
      · refine r_iconst (v := -1) (pc := 80) X dX5_debtPaidIn_80 (by decide) ?_
        exact e_iret (pc := 81) X hr hf (Nat.le_refl _) (Nat.le_refl _) dX5_debtPaidIn_81
      · refine r_aload_n (x := some 12) (pc := 48) X dX5_debtPaidIn_48 0 rfl ?_
        refine r_get (j := 5) (pc := 49) X ce_12 rfl inT5 (by decide) w_126 rfl dX5_debtPaidIn_49 ?_
        refine r_iload_n (pc := 52) X dX5_debtPaidIn_52 3 rfl ?_
        refine b_iald (pc := 53) X ce_17 dX5_debtPaidIn_53 hf (fun j4 hf => ?_)
        refine r_iload_n (pc := 54) X dX5_debtPaidIn_54 2 rfl ?_
        refine b_icmp_ne (tgt := 74) (pc := 55) X dX5_debtPaidIn_55 (by decide) hf (fun hf => ?_) (fun hf => ?_)
        · refine r_aload_n (x := some 12) (pc := 58) X dX5_debtPaidIn_58 0 rfl ?_
          refine r_aload_n (x := some 12) (pc := 59) X dX5_debtPaidIn_59 0 rfl ?_
          refine r_get (j := 4) (pc := 60) X ce_12 rfl inT5 (by decide) w_125 rfl dX5_debtPaidIn_60 ?_
          refine r_iload_n (pc := 63) X dX5_debtPaidIn_63 3 rfl ?_
          refine b_iald (pc := 64) X ce_16 dX5_debtPaidIn_64 hf (fun j5 hf => ?_)
          refine r_iload_n (pc := 65) X dX5_debtPaidIn_65 1 rfl ?_
          refine bnd hf (fun x6 h6 hf => ?_)
          refine r_callVi (As := [.int (gA s 16 j5), .int l1]) (st := []) (pc := 66) X (c_f_Rota_isOff h6) rfl w_347 w_348 w_349 w_38 w_350 hdV_X5_isOff (Rc.s rfl ce_12) (by decide) (by decide) (by decide) (Nat.le_of_ble_eq_true rfl) dX5_debtPaidIn_66 rfl ?_
          refine b_if_ne (tgt := 74) (pc := 69) X dX5_debtPaidIn_69 (by decide) hf (fun hf => ?_) (fun hf => ?_)
          · refine r_iload_n (pc := 72) X dX5_debtPaidIn_72 3 rfl ?_
            exact e_iret (pc := 73) X hr hf (Nat.le_refl _) (Nat.le_refl _) dX5_debtPaidIn_73
          · refine r_iinc (v := l3 + 1) (lv' := [(0, .ref (B + 12)), (1, .int l1), (2, .int l2), (3, .int (l3 + 1))]) (pc := 74) X dX5_debtPaidIn_74 3 rfl rfl (by decide) [1, 2, 3, 0] rfl ?_
            refine r_goto (tgt := 31) (pc := 77) X dX5_debtPaidIn_77 (by decide) ?_
            exact ih hf
        · refine r_iinc (v := l3 + 1) (lv' := [(0, .ref (B + 12)), (1, .int l1), (2, .int l2), (3, .int (l3 + 1))]) (pc := 74) X dX5_debtPaidIn_74 3 rfl rfl (by decide) [1, 2, 3, 0] rfl ?_
          refine r_goto (tgt := 31) (pc := 77) X dX5_debtPaidIn_77 (by decide) ?_
          exact ih hf
set_option maxHeartbeats 1000000 in
theorem c_f_Rota_debtPaidIn {F : Nat} {s : St} {p1 : Int32} {r : Int32} {s' : St} (hf : f_Rota_debtPaidIn F s p1 = some (r, s')) : CC true yX5_debtPaidIn (Cond.code yX5_debtPaidIn cX5_debtPaidIn 4 (some .int)) 2 44 (fun B => [.ref (B + 12), .int p1]) s (fun B => (some (.int r))) s' 0 0 := by
  refine CC.of (fun B => [(0, .ref (B + 12)), (1, .int p1)]) (by decide +kernel) (fun _ => rfl) (fun _ => (by simp [lg_sl, rfB_cat, catI, catL, catR])) (fun Γ D B X hr hin => ?_)
  have X : Cx Γ RX5 cX5_debtPaidIn 4 D B { frames := 2, cells := 0, slots := 0, locals := 44 } := X
  unfold f_Rota_debtPaidIn at hf
  refine r_aload_n (x := some 12) (pc := 0) X dX5_debtPaidIn_0 0 rfl ?_
  refine r_iload_n (pc := 1) X dX5_debtPaidIn_1 1 rfl ?_
  refine bnd hf (fun x1 h1 hf => ?_)
  refine r_callVi (As := [.int p1]) (st := []) (pc := 2) X (c_f_Rota_plannedFor h1) rfl w_337 w_338 w_339 w_38 w_340 hdV_X5_plannedFor (Rc.s rfl ce_12) (by decide) (by decide) (by decide) (Nat.le_of_ble_eq_true rfl) dX5_debtPaidIn_2 rfl ?_
  refine r_istore_n (pc := 5) (lv' := [(0, .ref (B + 12)), (1, .int p1), (2, .int x1.1)]) X dX5_debtPaidIn_5 (by decide) [1, 2, 0] rfl ?_
  refine r_iload_n (pc := 6) X dX5_debtPaidIn_6 2 rfl ?_
  refine r_iconst (v := -1) (pc := 7) X dX5_debtPaidIn_7 (by decide) ?_
  refine b_icmp_eq (tgt := 27) (pc := 8) X dX5_debtPaidIn_8 (by decide) hf (fun hf => ?_) (fun hf => ?_)
  · refine r_iconst (v := -1) (pc := 27) X dX5_debtPaidIn_27 (by decide) ?_
    exact e_iret (pc := 28) X hr hf (Nat.le_refl _) (Nat.le_refl _) dX5_debtPaidIn_28
  · refine r_iload_n (pc := 11) X dX5_debtPaidIn_11 1 rfl ?_
    refine bnd hf (fun x2 h2 hf => ?_)
    refine r_callSNi (As := [.int p1]) (st := []) (pc := 12) X (c_f_P_isNight h2) rfl wn_344 w_345 w_36 w_346 hdS_X10_isNight (by decide) (by decide) (by decide) (Nat.le_of_ble_eq_true rfl) dX5_debtPaidIn_12 rfl ?_
    refine b_if_eq (tgt := 27) (pc := 15) X dX5_debtPaidIn_15 (by decide) hf (fun hf => ?_) (fun hf => ?_)
    · refine r_iconst (v := -1) (pc := 27) X dX5_debtPaidIn_27 (by decide) ?_
      exact e_iret (pc := 28) X hr hf (Nat.le_refl _) (Nat.le_refl _) dX5_debtPaidIn_28
    · refine r_aload_n (x := some 12) (pc := 18) X dX5_debtPaidIn_18 0 rfl ?_
      refine r_iload_n (pc := 19) X dX5_debtPaidIn_19 2 rfl ?_
      refine r_iload_n (pc := 20) X dX5_debtPaidIn_20 1 rfl ?_
      refine bnd hf (fun x3 h3 hf => ?_)
      refine r_callVi (As := [.int x1.1, .int p1]) (st := []) (pc := 21) X (c_f_Rota_isOff h3) rfl w_347 w_348 w_349 w_38 w_350 hdV_X5_isOff (Rc.s rfl ce_12) (by decide) (by decide) (by decide) (Nat.le_of_ble_eq_true rfl) dX5_debtPaidIn_21 rfl ?_
      refine b_if_eq (tgt := 29) (pc := 24) X dX5_debtPaidIn_24 (by decide) hf (fun hf => ?_) (fun hf => ?_)
      · refine r_iconst (v := 0) (pc := 29) X dX5_debtPaidIn_29 (by decide) ?_
        refine r_istore_n (pc := 30) (lv' := [(0, .ref (B + 12)), (1, .int p1), (2, .int x1.1), (3, .int 0)]) X dX5_debtPaidIn_30 (by decide) [1, 2, 3, 0] rfl ?_
        exact c_f_Rota_debtPaidIn_b31 X hr _ hf
      · refine r_iconst (v := -1) (pc := 27) X dX5_debtPaidIn_27 (by decide) ?_
        exact e_iret (pc := 28) X hr hf (Nat.le_refl _) (Nat.le_refl _) dX5_debtPaidIn_28
/-! f_Rota_holderToBe -/
theorem dX5_holderToBe_0 : decode cX5_holderToBe 0 = .ok (.aload_n 0, 1) := by decide +kernel
theorem dX5_holderToBe_1 : decode cX5_holderToBe 1 = .ok (.iload_n 1, 1) := by decide +kernel
theorem dX5_holderToBe_2 : decode cX5_holderToBe 2 = .ok (.invokevirtual 44, 3) := by decide +kernel
theorem dX5_holderToBe_5 : decode cX5_holderToBe 5 = .ok (.istore_n 2, 1) := by decide +kernel
theorem dX5_holderToBe_6 : decode cX5_holderToBe 6 = .ok (.iload_n 2, 1) := by decide +kernel
theorem dX5_holderToBe_7 : decode cX5_holderToBe 7 = .ok (.iconst 0, 1) := by decide +kernel
theorem dX5_holderToBe_8 : decode cX5_holderToBe 8 = .ok (.aload_n 0, 1) := by decide +kernel
theorem dX5_holderToBe_9 : decode cX5_holderToBe 9 = .ok (.getfield 25, 3) := by decide +kernel
theorem dX5_holderToBe_12 : decode cX5_holderToBe 12 = .ok (.arraylength, 1) := by decide +kernel
theorem dX5_holderToBe_13 : decode cX5_holderToBe 13 = .ok (.iconst 1, 1) := by decide +kernel
theorem dX5_holderToBe_14 : decode cX5_holderToBe 14 = .ok (.isub, 1) := by decide +kernel
theorem dX5_holderToBe_15 : decode cX5_holderToBe 15 = .ok (.invokestatic 40, 3) := by decide +kernel
theorem dX5_holderToBe_18 : decode cX5_holderToBe 18 = .ok (.ifCond .eq 10, 3) := by decide +kernel
theorem dX5_holderToBe_21 : decode cX5_holderToBe 21 = .ok (.aload_n 0, 1) := by decide +kernel
theorem dX5_holderToBe_22 : decode cX5_holderToBe 22 = .ok (.getfield 25, 3) := by decide +kernel
theorem dX5_holderToBe_25 : decode cX5_holderToBe 25 = .ok (.iload_n 2, 1) := by decide +kernel
theorem dX5_holderToBe_26 : decode cX5_holderToBe 26 = .ok (.iaload, 1) := by decide +kernel
theorem dX5_holderToBe_27 : decode cX5_holderToBe 27 = .ok (.ireturn, 1) := by decide +kernel
theorem dX5_holderToBe_28 : decode cX5_holderToBe 28 = .ok (.aload_n 0, 1) := by decide +kernel
theorem dX5_holderToBe_29 : decode cX5_holderToBe 29 = .ok (.iload_n 1, 1) := by decide +kernel
theorem dX5_holderToBe_30 : decode cX5_holderToBe 30 = .ok (.invokevirtual 48, 3) := by decide +kernel
theorem dX5_holderToBe_33 : decode cX5_holderToBe 33 = .ok (.istore_n 3, 1) := by decide +kernel
theorem dX5_holderToBe_34 : decode cX5_holderToBe 34 = .ok (.iconst 0, 1) := by decide +kernel
theorem dX5_holderToBe_35 : decode cX5_holderToBe 35 = .ok (.istore 4, 2) := by decide +kernel
theorem dX5_holderToBe_37 : decode cX5_holderToBe 37 = .ok (.iload 4, 2) := by decide +kernel
theorem dX5_holderToBe_39 : decode cX5_holderToBe 39 = .ok (.aload_n 0, 1) := by decide +kernel
theorem dX5_holderToBe_40 : decode cX5_holderToBe 40 = .ok (.getfield 9, 3) := by decide +kernel
theorem dX5_holderToBe_43 : decode cX5_holderToBe 43 = .ok (.if_icmp .ge 33, 3) := by decide +kernel
theorem dX5_holderToBe_46 : decode cX5_holderToBe 46 = .ok (.iload_n 3, 1) := by decide +kernel
theorem dX5_holderToBe_47 : decode cX5_holderToBe 47 = .ok (.iload 4, 2) := by decide +kernel
theorem dX5_holderToBe_49 : decode cX5_holderToBe 49 = .ok (.iadd, 1) := by decide +kernel
theorem dX5_holderToBe_50 : decode cX5_holderToBe 50 = .ok (.aload_n 0, 1) := by decide +kernel
theorem dX5_holderToBe_51 : decode cX5_holderToBe 51 = .ok (.getfield 9, 3) := by decide +kernel
theorem dX5_holderToBe_54 : decode cX5_holderToBe 54 = .ok (.irem, 1) := by decide +kernel
theorem dX5_holderToBe_55 : decode cX5_holderToBe 55 = .ok (.istore 5, 2) := by decide +kernel
theorem dX5_holderToBe_57 : decode cX5_holderToBe 57 = .ok (.aload_n 0, 1) := by decide +kernel
theorem dX5_holderToBe_58 : decode cX5_holderToBe 58 = .ok (.iload 5, 2) := by decide +kernel
theorem dX5_holderToBe_60 : decode cX5_holderToBe 60 = .ok (.iload_n 1, 1) := by decide +kernel
theorem dX5_holderToBe_61 : decode cX5_holderToBe 61 = .ok (.invokevirtual 51, 3) := by decide +kernel
theorem dX5_holderToBe_64 : decode cX5_holderToBe 64 = .ok (.ifCond .ne 6, 3) := by decide +kernel
theorem dX5_holderToBe_67 : decode cX5_holderToBe 67 = .ok (.iload 5, 2) := by decide +kernel
theorem dX5_holderToBe_69 : decode cX5_holderToBe 69 = .ok (.ireturn, 1) := by decide +kernel
theorem dX5_holderToBe_70 : decode cX5_holderToBe 70 = .ok (.iinc 4 1, 3) := by decide +kernel
theorem dX5_holderToBe_73 : decode cX5_holderToBe 73 = .ok (.goto (-36), 3) := by decide +kernel
theorem dX5_holderToBe_76 : decode cX5_holderToBe 76 = .ok (.iconst (-1), 1) := by decide +kernel
theorem dX5_holderToBe_77 : decode cX5_holderToBe 77 = .ok (.ireturn, 1) := by decide +kernel
def f_Rota_holderToBe_b37 (F : Nat) : Nat → St → Int32 → Int32 → Int32 → Option (Int32 × St)
  | 0, _, _, _, _ => none
  | n + 1, s, l1, l3, l4 =>
    if (gI s 768) ≤ l4 then
      (some ((-1), s))
    else
      (if gI s 768 = 0 then none else ((f_Rota_isOff F s ((l3 + l4) - (l3 + l4) / (gI s 768) * (gI s 768)) l1).bind fun x4 => (if x4.1 = 0 then
        (some (((l3 + l4) - (l3 + l4) / (gI s 768) * (gI s 768)), x4.2))
      else
        (f_Rota_holderToBe_b37 F n x4.2 l1 l3 (l4 + 1)))))
def f_Rota_holderToBe (F : Nat) (s : St) (p1 : Int32) : Option (Int32 × St) :=
  (f_Rota_debtPaidIn F s p1).bind fun x1 => ((f_P_isIn F x1.2 x1.1 0 ((4000 : Int32) - 1)).bind fun x2 => (if x2.1 = 0 then
    ((f_Rota_plannedFor F x2.2 p1).bind fun x3 => (f_Rota_holderToBe_b37 F F x3.2 p1 x3.1 0))
  else
    ((ix 4000 x1.1).bind fun j5 => (some ((gA x2.2 16 j5), x2.2)))))
set_option maxHeartbeats 1000000 in
theorem c_f_Rota_holderToBe_b37 {F : Nat} {Γ : Ga} {D : DD} {B : Nat} {r : Int32} {s' : St} (X : Cx Γ RX5 cX5_holderToBe 6 D B { frames := 3, cells := 0, slots := 0, locals := 67 }) (hr : (Gme Γ).sig.returnType = (some .int)) : ∀ (n : Nat) {s : St} {l1 : Int32} {l3 : Int32} {l4 : Int32}, f_Rota_holderToBe_b37 F n s l1 l3 l4 = some (r, s') → V Γ D B true 6 (QM Γ D B true s' (some (.int r)) 0 0) 0 0 s 37 [(0, .ref (B + 12)), (1, .int l1), (3, .int l3), (4, .int l4)] [] := by
  intro n
  induction n with
  | zero => intro s l1 l3 l4 hf; rw [f_Rota_holderToBe_b37] at hf; cases hf
  | succ n ih =>
    intro s l1 l3 l4 hf
    rw [f_Rota_holderToBe_b37] at hf
    refine r_iload (pc := 37) X dX5_holderToBe_37 3 rfl ?_
    refine r_aload_n (x := some 12) (pc := 39) X dX5_holderToBe_39 0 rfl ?_
    refine r_get (j := 0) (pc := 40) X ce_12 rfl inT5 (by decide) w_120 rfl dX5_holderToBe_40 ?_
    refine b_icmp_ge (tgt := 76) (pc := 43) X dX5_holderToBe_43 (by decide) hf (fun hf => ?_) (fun hf => ?_)
    · refine r_iconst (v := -1) (pc := 76) X dX5_holderToBe_76 (by decide) ?_
      exact e_iret (pc := 77) X hr hf (Nat.le_refl _) (Nat.le_refl _) dX5_holderToBe_77
    · refine r_iload_n (pc := 46) X dX5_holderToBe_46 2 rfl ?_
      refine r_iload (pc := 47) X dX5_holderToBe_47 3 rfl ?_
      refine r_iadd (pc := 49) X dX5_holderToBe_49 ?_
      refine r_aload_n (x := some 12) (pc := 50) X dX5_holderToBe_50 0 rfl ?_
      refine r_get (j := 0) (pc := 51) X ce_12 rfl inT5 (by decide) w_120 rfl dX5_holderToBe_51 ?_
      refine ifz hf (fun hne hf => ?_)
      refine r_irem (pc := 54) X dX5_holderToBe_54 hne ?_
      refine r_istore (pc := 55) (lv' := [(0, .ref (B + 12)), (1, .int l1), (3, .int l3), (4, .int l4), (5, .int ((l3 + l4) - (l3 + l4) / (gI s 768) * (gI s 768)))]) X dX5_holderToBe_55 (by decide) [1, 2, 3, 4, 0] rfl ?_
      refine r_aload_n (x := some 12) (pc := 57) X dX5_holderToBe_57 0 rfl ?_
      refine r_iload (pc := 58) X dX5_holderToBe_58 4 rfl ?_
      refine r_iload_n (pc := 60) X dX5_holderToBe_60 1 rfl ?_
      refine bnd hf (fun x4 h4 hf => ?_)
      refine r_callVi (As := [.int ((l3 + l4) - (l3 + l4) / (gI s 768) * (gI s 768)), .int l1]) (st := []) (pc := 61) X (c_f_Rota_isOff h4) rfl w_347 w_348 w_349 w_38 w_350 hdV_X5_isOff (Rc.s rfl ce_12) (by decide) (by decide) (by decide) (Nat.le_of_ble_eq_true rfl) dX5_holderToBe_61 rfl ?_
      refine b_if_ne (tgt := 70) (pc := 64) X dX5_holderToBe_64 (by decide) hf (fun hf => ?_) (fun hf => ?_)
      · refine r_iload (pc := 67) X dX5_holderToBe_67 4 rfl ?_
        exact e_iret (pc := 69) X hr hf (Nat.le_refl _) (Nat.le_refl _) dX5_holderToBe_69
      · refine r_iinc (v := l4 + 1) (lv' := [(0, .ref (B + 12)), (1, .int l1), (3, .int l3), (4, .int (l4 + 1))]) (pc := 70) X dX5_holderToBe_70 3 rfl rfl (by decide) [1, 2, 3, 0] rfl ?_
        refine r_goto (tgt := 37) (pc := 73) X dX5_holderToBe_73 (by decide) ?_
        exact ih hf
set_option maxHeartbeats 1000000 in
theorem c_f_Rota_holderToBe {F : Nat} {s : St} {p1 : Int32} {r : Int32} {s' : St} (hf : f_Rota_holderToBe F s p1 = some (r, s')) : CC true yX5_holderToBe (Cond.code yX5_holderToBe cX5_holderToBe 6 (some .int)) 3 67 (fun B => [.ref (B + 12), .int p1]) s (fun B => (some (.int r))) s' 0 0 := by
  refine CC.of (fun B => [(0, .ref (B + 12)), (1, .int p1)]) (by decide +kernel) (fun _ => rfl) (fun _ => (by simp [lg_sl, rfB_cat, catI, catL, catR])) (fun Γ D B X hr hin => ?_)
  have X : Cx Γ RX5 cX5_holderToBe 6 D B { frames := 3, cells := 0, slots := 0, locals := 67 } := X
  unfold f_Rota_holderToBe at hf
  refine r_aload_n (x := some 12) (pc := 0) X dX5_holderToBe_0 0 rfl ?_
  refine r_iload_n (pc := 1) X dX5_holderToBe_1 1 rfl ?_
  refine bnd hf (fun x1 h1 hf => ?_)
  refine r_callVi (As := [.int p1]) (st := []) (pc := 2) X (c_f_Rota_debtPaidIn h1) rfl w_333 w_335 w_1 w_38 w_336 hdV_X5_debtPaidIn (Rc.s rfl ce_12) (by decide) (by decide) (by decide) (Nat.le_of_ble_eq_true rfl) dX5_holderToBe_2 rfl ?_
  refine r_istore_n (pc := 5) (lv' := [(0, .ref (B + 12)), (1, .int p1), (2, .int x1.1)]) X dX5_holderToBe_5 (by decide) [1, 2, 0] rfl ?_
  refine r_iload_n (pc := 6) X dX5_holderToBe_6 2 rfl ?_
  refine r_iconst (v := 0) (pc := 7) X dX5_holderToBe_7 (by decide) ?_
  refine r_aload_n (x := some 12) (pc := 8) X dX5_holderToBe_8 0 rfl ?_
  refine r_get (j := 4) (pc := 9) X ce_12 rfl inT5 (by decide) w_125 rfl dX5_holderToBe_9 ?_
  refine r_alen (t0 := 1) (v := 4000) (pc := 12) X ce_16 rfl (by decide) dX5_holderToBe_12 ?_
  refine r_iconst (v := 1) (pc := 13) X dX5_holderToBe_13 (by decide) ?_
  refine r_isub (pc := 14) X dX5_holderToBe_14 ?_
  refine bnd hf (fun x2 h2 hf => ?_)
  refine r_callSNi (As := [.int x1.1, .int 0, .int ((4000 : Int32) - 1)]) (st := []) (pc := 15) X (c_f_P_isIn h2) rfl wn_341 w_342 w_36 w_343 hdS_X10_isIn (by decide) (by decide) (by decide) (Nat.le_of_ble_eq_true rfl) dX5_holderToBe_15 rfl ?_
  refine b_if_eq (tgt := 28) (pc := 18) X dX5_holderToBe_18 (by decide) hf (fun hf => ?_) (fun hf => ?_)
  · refine r_aload_n (x := some 12) (pc := 28) X dX5_holderToBe_28 0 rfl ?_
    refine r_iload_n (pc := 29) X dX5_holderToBe_29 1 rfl ?_
    refine bnd hf (fun x3 h3 hf => ?_)
    refine r_callVi (As := [.int p1]) (st := []) (pc := 30) X (c_f_Rota_plannedFor h3) rfl w_337 w_338 w_339 w_38 w_340 hdV_X5_plannedFor (Rc.s rfl ce_12) (by decide) (by decide) (by decide) (Nat.le_of_ble_eq_true rfl) dX5_holderToBe_30 rfl ?_
    refine r_istore_n (pc := 33) (lv' := [(0, .ref (B + 12)), (1, .int p1), (3, .int x3.1)]) X dX5_holderToBe_33 (by decide) [1, 2, 0] rfl ?_
    refine r_iconst (v := 0) (pc := 34) X dX5_holderToBe_34 (by decide) ?_
    refine r_istore (pc := 35) (lv' := [(0, .ref (B + 12)), (1, .int p1), (3, .int x3.1), (4, .int 0)]) X dX5_holderToBe_35 (by decide) [1, 2, 3, 0] rfl ?_
    exact c_f_Rota_holderToBe_b37 X hr _ hf
  · refine r_aload_n (x := some 12) (pc := 21) X dX5_holderToBe_21 0 rfl ?_
    refine r_get (j := 4) (pc := 22) X ce_12 rfl inT5 (by decide) w_125 rfl dX5_holderToBe_22 ?_
    refine r_iload_n (pc := 25) X dX5_holderToBe_25 2 rfl ?_
    refine b_iald (pc := 26) X ce_16 dX5_holderToBe_26 hf (fun j5 hf => ?_)
    exact e_iret (pc := 27) X hr hf (Nat.le_refl _) (Nat.le_refl _) dX5_holderToBe_27
/-! f_P_next -/
theorem dX10_next_0 : decode cX10_next 0 = .ok (.aload_n 0, 1) := by decide +kernel
theorem dX10_next_1 : decode cX10_next 1 = .ok (.getfield 17, 3) := by decide +kernel
theorem dX10_next_4 : decode cX10_next 4 = .ok (.bipush 8, 2) := by decide +kernel
theorem dX10_next_6 : decode cX10_next 6 = .ok (.idiv, 1) := by decide +kernel
theorem dX10_next_7 : decode cX10_next 7 = .ok (.iconst 1, 1) := by decide +kernel
theorem dX10_next_8 : decode cX10_next 8 = .ok (.iadd, 1) := by decide +kernel
theorem dX10_next_9 : decode cX10_next 9 = .ok (.istore_n 1, 1) := by decide +kernel
theorem dX10_next_10 : decode cX10_next 10 = .ok (.aload_n 0, 1) := by decide +kernel
theorem dX10_next_11 : decode cX10_next 11 = .ok (.iload_n 1, 1) := by decide +kernel
theorem dX10_next_12 : decode cX10_next 12 = .ok (.invokevirtual 167, 3) := by decide +kernel
theorem dX10_next_15 : decode cX10_next 15 = .ok (.ifCond .eq 14, 3) := by decide +kernel
theorem dX10_next_18 : decode cX10_next 18 = .ok (.aload_n 0, 1) := by decide +kernel
theorem dX10_next_19 : decode cX10_next 19 = .ok (.getfield 39, 3) := by decide +kernel
theorem dX10_next_22 : decode cX10_next 22 = .ok (.iload_n 1, 1) := by decide +kernel
theorem dX10_next_23 : decode cX10_next 23 = .ok (.invokevirtual 193, 3) := by decide +kernel
theorem dX10_next_26 : decode cX10_next 26 = .ok (.goto 4, 3) := by decide +kernel
theorem dX10_next_29 : decode cX10_next 29 = .ok (.iconst (-1), 1) := by decide +kernel
theorem dX10_next_30 : decode cX10_next 30 = .ok (.ireturn, 1) := by decide +kernel
def f_P_next (F : Nat) (s : St)  : Option (Int32 × St) :=
  (f_P_isToCome F s (((gI s 2) / 8) + 1)).bind fun x1 => (if x1.1 = 0 then
    (some ((-1), x1.2))
  else
    ((f_Rota_holderToBe F x1.2 (((gI s 2) / 8) + 1)).bind fun x2 => (some (x2.1, x2.2))))
set_option maxHeartbeats 1000000 in
theorem c_f_P_next {F : Nat} {s : St}  {r : Int32} {s' : St} (hf : f_P_next F s  = some (r, s')) : CC true yX10_next (Cond.code yX10_next cX10_next 2 (some .int)) 4 92 (fun B => [.ref (B + 0)]) s (fun B => (some (.int r))) s' 0 0 := by
  refine CC.of (fun B => [(0, .ref (B + 0))]) (by decide +kernel) (fun _ => rfl) (fun _ => (by simp [lg_sl, rfB_cat, catI, catL, catR])) (fun Γ D B X hr hin => ?_)
  have X : Cx Γ RX10 cX10_next 2 D B { frames := 4, cells := 0, slots := 0, locals := 92 } := X
  unfold f_P_next at hf
  refine r_aload_n (x := some 0) (pc := 0) X dX10_next_0 0 rfl ?_
  refine r_get (j := 2) (pc := 1) X ce_0 rfl inT10 (by decide) w_282 rfl dX10_next_1 ?_
  refine r_bipush (v := 8) (pc := 4) X dX10_next_4 (by decide) ?_
  refine r_idiv (pc := 6) X dX10_next_6 (by decide) ?_
  refine r_iconst (v := 1) (pc := 7) X dX10_next_7 (by decide) ?_
  refine r_iadd (pc := 8) X dX10_next_8 ?_
  refine r_istore_n (pc := 9) (lv' := [(0, .ref (B + 0)), (1, .int (((gI s 2) / 8) + 1))]) X dX10_next_9 (by decide) [1, 0] rfl ?_
  refine r_aload_n (x := some 0) (pc := 10) X dX10_next_10 0 rfl ?_
  refine r_iload_n (pc := 11) X dX10_next_11 1 rfl ?_
  refine bnd hf (fun x1 h1 hf => ?_)
  refine r_callVi (As := [.int (((gI s 2) / 8) + 1)]) (st := []) (pc := 12) X (c_f_P_isToCome h1) rfl w_325 w_327 w_0 w_36 w_328 hdV_X10_isToCome (Rc.s rfl ce_0) (by decide) (by decide) (by decide) (Nat.le_of_ble_eq_true rfl) dX10_next_12 rfl ?_
  refine b_if_eq (tgt := 29) (pc := 15) X dX10_next_15 (by decide) hf (fun hf => ?_) (fun hf => ?_)
  · refine r_iconst (v := -1) (pc := 29) X dX10_next_29 (by decide) ?_
    exact e_iret (pc := 30) X hr hf (Nat.le_refl _) (Nat.le_refl _) dX10_next_30
  · refine r_aload_n (x := some 0) (pc := 18) X dX10_next_18 0 rfl ?_
    refine r_get (j := 6) (pc := 19) X ce_0 rfl inT10 (by decide) w_286 rfl dX10_next_19 ?_
    refine r_iload_n (pc := 22) X dX10_next_22 1 rfl ?_
    refine bnd hf (fun x2 h2 hf => ?_)
    refine r_callVi (As := [.int (((gI s 2) / 8) + 1)]) (st := []) (pc := 23) X (c_f_Rota_holderToBe h2) rfl w_329 w_330 w_331 w_38 w_332 hdV_X5_holderToBe (Rc.s rfl ce_12) (by decide) (by decide) (by decide) (Nat.le_of_ble_eq_true rfl) dX10_next_23 rfl ?_
    refine r_goto (tgt := 30) (pc := 26) X dX10_next_26 (by decide) ?_
    exact e_iret (pc := 30) X hr hf (Nat.le_refl _) (Nat.le_refl _) dX10_next_30
/-! f_P_ruleAt -/
theorem dX10_ruleAt_0 : decode cX10_ruleAt 0 = .ok (.iload_n 1, 1) := by decide +kernel
theorem dX10_ruleAt_1 : decode cX10_ruleAt 1 = .ok (.ifCond .lt 29, 3) := by decide +kernel
theorem dX10_ruleAt_4 : decode cX10_ruleAt 4 = .ok (.iload_n 1, 1) := by decide +kernel
theorem dX10_ruleAt_5 : decode cX10_ruleAt 5 = .ok (.aload_n 0, 1) := by decide +kernel
theorem dX10_ruleAt_6 : decode cX10_ruleAt 6 = .ok (.getfield 26, 3) := by decide +kernel
theorem dX10_ruleAt_9 : decode cX10_ruleAt 9 = .ok (.if_icmp .ge 21, 3) := by decide +kernel
theorem dX10_ruleAt_12 : decode cX10_ruleAt 12 = .ok (.iload_n 1, 1) := by decide +kernel
theorem dX10_ruleAt_13 : decode cX10_ruleAt 13 = .ok (.aload_n 0, 1) := by decide +kernel
theorem dX10_ruleAt_14 : decode cX10_ruleAt 14 = .ok (.getfield 22, 3) := by decide +kernel
theorem dX10_ruleAt_17 : decode cX10_ruleAt 17 = .ok (.arraylength, 1) := by decide +kernel
theorem dX10_ruleAt_18 : decode cX10_ruleAt 18 = .ok (.if_icmp .ge 12, 3) := by decide +kernel
theorem dX10_ruleAt_21 : decode cX10_ruleAt 21 = .ok (.aload_n 0, 1) := by decide +kernel
theorem dX10_ruleAt_22 : decode cX10_ruleAt 22 = .ok (.getfield 22, 3) := by decide +kernel
theorem dX10_ruleAt_25 : decode cX10_ruleAt 25 = .ok (.iload_n 1, 1) := by decide +kernel
theorem dX10_ruleAt_26 : decode cX10_ruleAt 26 = .ok (.aaload, 1) := by decide +kernel
theorem dX10_ruleAt_27 : decode cX10_ruleAt 27 = .ok (.goto 4, 3) := by decide +kernel
theorem dX10_ruleAt_30 : decode cX10_ruleAt 30 = .ok (.aconst_null, 1) := by decide +kernel
theorem dX10_ruleAt_31 : decode cX10_ruleAt 31 = .ok (.areturn, 1) := by decide +kernel
def f_P_ruleAt (F : Nat) (s : St) (p1 : Int32) : Option (Option Nat × St) :=
  if p1 < 0 then
    (some (none, s))
  else
    (if (gI s 4) ≤ p1 then
      (some (none, s))
    else
      (if 4 ≤ p1 then
        (some (none, s))
      else
        ((ix 4 p1).bind fun j1 => (some ((gQ s 2 j1), s)))))
set_option maxHeartbeats 1000000 in
theorem c_f_P_ruleAt {F : Nat} {s : St} {p1 : Int32} {r : Option Nat} {s' : St} (hf : f_P_ruleAt F s p1 = some (r, s')) : CC true yX10_ruleAt (Cond.code yX10_ruleAt cX10_ruleAt 2 (some (.object "Pagerloom$Rule"))) 0 0 (fun B => [.ref (B + 0), .int p1]) s (fun B => (some (rfB B r))) s' 0 0 := by
  refine CC.of (fun B => [(0, .ref (B + 0)), (1, .int p1)]) (by decide +kernel) (fun _ => rfl) (fun _ => (by simp [lg_sl, rfB_cat, catI, catL, catR])) (fun Γ D B X hr hin => ?_)
  have X : Cx Γ RX10 cX10_ruleAt 2 D B { frames := 0, cells := 0, slots := 0, locals := 0 } := X
  unfold f_P_ruleAt at hf
  refine r_iload_n (pc := 0) X dX10_ruleAt_0 1 rfl ?_
  refine b_if_lt (tgt := 30) (pc := 1) X dX10_ruleAt_1 (by decide) hf (fun hf => ?_) (fun hf => ?_)
  · refine r_aconst_null (pc := 30) X dX10_ruleAt_30 ?_
    exact e_aret (pc := 31) X hr hf (Nat.le_refl _) (Nat.le_refl _) dX10_ruleAt_31
  · refine r_iload_n (pc := 4) X dX10_ruleAt_4 1 rfl ?_
    refine r_aload_n (x := some 0) (pc := 5) X dX10_ruleAt_5 0 rfl ?_
    refine r_get (j := 4) (pc := 6) X ce_0 rfl inT10 (by decide) w_284 rfl dX10_ruleAt_6 ?_
    refine b_icmp_ge (tgt := 30) (pc := 9) X dX10_ruleAt_9 (by decide) hf (fun hf => ?_) (fun hf => ?_)
    · refine r_aconst_null (pc := 30) X dX10_ruleAt_30 ?_
      exact e_aret (pc := 31) X hr hf (Nat.le_refl _) (Nat.le_refl _) dX10_ruleAt_31
    · refine r_iload_n (pc := 12) X dX10_ruleAt_12 1 rfl ?_
      refine r_aload_n (x := some 0) (pc := 13) X dX10_ruleAt_13 0 rfl ?_
      refine r_get (j := 3) (pc := 14) X ce_0 rfl inT10 (by decide) w_283 rfl dX10_ruleAt_14 ?_
      refine r_alen (t0 := 4) (v := 4) (pc := 17) X ce_2 rfl (by decide) dX10_ruleAt_17 ?_
      refine b_icmp_ge (tgt := 30) (pc := 18) X dX10_ruleAt_18 (by decide) hf (fun hf => ?_) (fun hf => ?_)
      · refine r_aconst_null (pc := 30) X dX10_ruleAt_30 ?_
        exact e_aret (pc := 31) X hr hf (Nat.le_refl _) (Nat.le_refl _) dX10_ruleAt_31
      · refine r_aload_n (x := some 0) (pc := 21) X dX10_ruleAt_21 0 rfl ?_
        refine r_get (j := 3) (pc := 22) X ce_0 rfl inT10 (by decide) w_283 rfl dX10_ruleAt_22 ?_
        refine r_iload_n (pc := 25) X dX10_ruleAt_25 1 rfl ?_
        refine b_aald (pc := 26) X ce_2 dX10_ruleAt_26 hf (fun j1 hf => ?_)
        refine r_goto (tgt := 31) (pc := 27) X dX10_ruleAt_27 (by decide) ?_
        exact e_aret (pc := 31) X hr hf (Nat.le_refl _) (Nat.le_refl _) dX10_ruleAt_31
/-! f_P_alarms -/
theorem dX10_alarms_0 : decode cX10_alarms 0 = .ok (.aload_n 0, 1) := by decide +kernel
theorem dX10_alarms_1 : decode cX10_alarms 1 = .ok (.getfield 46, 3) := by decide +kernel
theorem dX10_alarms_4 : decode cX10_alarms 4 = .ok (.getfield 136, 3) := by decide +kernel
theorem dX10_alarms_7 : decode cX10_alarms 7 = .ok (.ireturn, 1) := by decide +kernel
def f_P_alarms (F : Nat) (s : St)  : Option (Int32 × St) :=
  some ((gI s 1157), s)
set_option maxHeartbeats 1000000 in
theorem c_f_P_alarms {F : Nat} {s : St}  {r : Int32} {s' : St} (hf : f_P_alarms F s  = some (r, s')) : CC true yX10_alarms (Cond.code yX10_alarms cX10_alarms 1 (some .int)) 0 0 (fun B => [.ref (B + 0)]) s (fun B => (some (.int r))) s' 0 0 := by
  refine CC.of (fun B => [(0, .ref (B + 0))]) (by decide +kernel) (fun _ => rfl) (fun _ => (by simp [lg_sl, rfB_cat, catI, catL, catR])) (fun Γ D B X hr hin => ?_)
  have X : Cx Γ RX10 cX10_alarms 1 D B { frames := 0, cells := 0, slots := 0, locals := 0 } := X
  unfold f_P_alarms at hf
  refine r_aload_n (x := some 0) (pc := 0) X dX10_alarms_0 0 rfl ?_
  refine r_get (j := 7) (pc := 1) X ce_0 rfl inT10 (by decide) w_287 rfl dX10_alarms_1 ?_
  refine r_get (j := 5) (pc := 4) X ce_18 rfl inT0 (by decide) w_161 rfl dX10_alarms_4 ?_
  exact e_iret (pc := 7) X hr hf (Nat.le_refl _) (Nat.le_refl _) dX10_alarms_7
/-! f_P_waiting -/
theorem dX10_waiting_0 : decode cX10_waiting 0 = .ok (.aload_n 0, 1) := by decide +kernel
theorem dX10_waiting_1 : decode cX10_waiting 1 = .ok (.getfield 46, 3) := by decide +kernel
theorem dX10_waiting_4 : decode cX10_waiting 4 = .ok (.getfield 136, 3) := by decide +kernel
theorem dX10_waiting_7 : decode cX10_waiting 7 = .ok (.aload_n 0, 1) := by decide +kernel
theorem dX10_waiting_8 : decode cX10_waiting 8 = .ok (.getfield 46, 3) := by decide +kernel
theorem dX10_waiting_11 : decode cX10_waiting 11 = .ok (.getfield 253, 3) := by decide +kernel
theorem dX10_waiting_14 : decode cX10_waiting 14 = .ok (.isub, 1) := by decide +kernel
theorem dX10_waiting_15 : decode cX10_waiting 15 = .ok (.ireturn, 1) := by decide +kernel
def f_P_waiting (F : Nat) (s : St)  : Option (Int32 × St) :=
  some (((gI s 1157) - (gI s 1158)), s)
set_option maxHeartbeats 1000000 in
theorem c_f_P_waiting {F : Nat} {s : St}  {r : Int32} {s' : St} (hf : f_P_waiting F s  = some (r, s')) : CC true yX10_waiting (Cond.code yX10_waiting cX10_waiting 1 (some .int)) 0 0 (fun B => [.ref (B + 0)]) s (fun B => (some (.int r))) s' 0 0 := by
  refine CC.of (fun B => [(0, .ref (B + 0))]) (by decide +kernel) (fun _ => rfl) (fun _ => (by simp [lg_sl, rfB_cat, catI, catL, catR])) (fun Γ D B X hr hin => ?_)
  have X : Cx Γ RX10 cX10_waiting 1 D B { frames := 0, cells := 0, slots := 0, locals := 0 } := X
  unfold f_P_waiting at hf
  refine r_aload_n (x := some 0) (pc := 0) X dX10_waiting_0 0 rfl ?_
  refine r_get (j := 7) (pc := 1) X ce_0 rfl inT10 (by decide) w_287 rfl dX10_waiting_1 ?_
  refine r_get (j := 5) (pc := 4) X ce_18 rfl inT0 (by decide) w_161 rfl dX10_waiting_4 ?_
  refine r_aload_n (x := some 0) (pc := 7) X dX10_waiting_7 0 rfl ?_
  refine r_get (j := 7) (pc := 8) X ce_0 rfl inT10 (by decide) w_287 rfl dX10_waiting_8 ?_
  refine r_get (j := 6) (pc := 11) X ce_18 rfl inT0 (by decide) w_163 rfl dX10_waiting_11 ?_
  refine r_isub (pc := 14) X dX10_waiting_14 ?_
  exact e_iret (pc := 15) X hr hf (Nat.le_refl _) (Nat.le_refl _) dX10_waiting_15
/-! f_Alarms_has -/
theorem dX0_has_0 : decode cX0_has 0 = .ok (.iload_n 1, 1) := by decide +kernel
theorem dX0_has_1 : decode cX0_has 1 = .ok (.ifCond .lt 22, 3) := by decide +kernel
theorem dX0_has_4 : decode cX0_has 4 = .ok (.iload_n 1, 1) := by decide +kernel
theorem dX0_has_5 : decode cX0_has 5 = .ok (.aload_n 0, 1) := by decide +kernel
theorem dX0_has_6 : decode cX0_has 6 = .ok (.getfield 28, 3) := by decide +kernel
theorem dX0_has_9 : decode cX0_has 9 = .ok (.if_icmp .ge 14, 3) := by decide +kernel
theorem dX0_has_12 : decode cX0_has 12 = .ok (.iload_n 1, 1) := by decide +kernel
theorem dX0_has_13 : decode cX0_has 13 = .ok (.sipush 4000, 3) := by decide +kernel
theorem dX0_has_16 : decode cX0_has 16 = .ok (.if_icmp .ge 7, 3) := by decide +kernel
theorem dX0_has_19 : decode cX0_has 19 = .ok (.iconst 1, 1) := by decide +kernel
theorem dX0_has_20 : decode cX0_has 20 = .ok (.goto 4, 3) := by decide +kernel
theorem dX0_has_23 : decode cX0_has 23 = .ok (.iconst 0, 1) := by decide +kernel
theorem dX0_has_24 : decode cX0_has 24 = .ok (.ireturn, 1) := by decide +kernel
def f_Alarms_has (F : Nat) (s : St) (p1 : Int32) : Option (Int32 × St) :=
  if p1 < 0 then
    (some (0, s))
  else
    (if (gI s 1157) ≤ p1 then
      (some (0, s))
    else
      (if 4000 ≤ p1 then
        (some (0, s))
      else
        (some (1, s))))
set_option maxHeartbeats 1000000 in
theorem c_f_Alarms_has {F : Nat} {s : St} {p1 : Int32} {r : Int32} {s' : St} (hf : f_Alarms_has F s p1 = some (r, s')) : CC true yX0_has (Cond.code yX0_has cX0_has 2 (some .boolean)) 0 0 (fun B => [.ref (B + 18), .int p1]) s (fun B => (some (.int r))) s' 0 0 := by
  refine CC.of (fun B => [(0, .ref (B + 18)), (1, .int p1)]) (by decide +kernel) (fun _ => rfl) (fun _ => (by simp [lg_sl, rfB_cat, catI, catL, catR])) (fun Γ D B X hr hin => ?_)
  have X : Cx Γ RX0 cX0_has 2 D B { frames := 0, cells := 0, slots := 0, locals := 0 } := X
  unfold f_Alarms_has at hf
  refine r_iload_n (pc := 0) X dX0_has_0 1 rfl ?_
  refine b_if_lt (tgt := 23) (pc := 1) X dX0_has_1 (by decide) hf (fun hf => ?_) (fun hf => ?_)
  · refine r_iconst (v := 0) (pc := 23) X dX0_has_23 (by decide) ?_
    exact e_zret (pc := 24) X hr (by decide) hf (Nat.le_refl _) (Nat.le_refl _) dX0_has_24
  · refine r_iload_n (pc := 4) X dX0_has_4 1 rfl ?_
    refine r_aload_n (x := some 18) (pc := 5) X dX0_has_5 0 rfl ?_
    refine r_get (j := 5) (pc := 6) X ce_18 rfl inT0 (by decide) w_160 rfl dX0_has_6 ?_
    refine b_icmp_ge (tgt := 23) (pc := 9) X dX0_has_9 (by decide) hf (fun hf => ?_) (fun hf => ?_)
    · refine r_iconst (v := 0) (pc := 23) X dX0_has_23 (by decide) ?_
      exact e_zret (pc := 24) X hr (by decide) hf (Nat.le_refl _) (Nat.le_refl _) dX0_has_24
    · refine r_iload_n (pc := 12) X dX0_has_12 1 rfl ?_
      refine r_sipush (v := 4000) (pc := 13) X dX0_has_13 (by decide) ?_
      refine b_icmp_ge (tgt := 23) (pc := 16) X dX0_has_16 (by decide) hf (fun hf => ?_) (fun hf => ?_)
      · refine r_iconst (v := 0) (pc := 23) X dX0_has_23 (by decide) ?_
        exact e_zret (pc := 24) X hr (by decide) hf (Nat.le_refl _) (Nat.le_refl _) dX0_has_24
      · refine r_iconst (v := 1) (pc := 19) X dX0_has_19 (by decide) ?_
        refine r_goto (tgt := 24) (pc := 20) X dX0_has_20 (by decide) ?_
        exact e_zret (pc := 24) X hr (by decide) hf (Nat.le_refl _) (Nat.le_refl _) dX0_has_24
/-! f_Rota_forgetDebt -/
theorem dX5_forgetDebt_0 : decode cX5_forgetDebt 0 = .ok (.iload_n 1, 1) := by decide +kernel
theorem dX5_forgetDebt_1 : decode cX5_forgetDebt 1 = .ok (.iconst 0, 1) := by decide +kernel
theorem dX5_forgetDebt_2 : decode cX5_forgetDebt 2 = .ok (.aload_n 0, 1) := by decide +kernel
theorem dX5_forgetDebt_3 : decode cX5_forgetDebt 3 = .ok (.getfield 31, 3) := by decide +kernel
theorem dX5_forgetDebt_6 : decode cX5_forgetDebt 6 = .ok (.iconst 1, 1) := by decide +kernel
theorem dX5_forgetDebt_7 : decode cX5_forgetDebt 7 = .ok (.isub, 1) := by decide +kernel
theorem dX5_forgetDebt_8 : decode cX5_forgetDebt 8 = .ok (.invokestatic 40, 3) := by decide +kernel
theorem dX5_forgetDebt_11 : decode cX5_forgetDebt 11 = .ok (.ifCond .ne 4, 3) := by decide +kernel
theorem dX5_forgetDebt_14 : decode cX5_forgetDebt 14 = .ok (.return_, 1) := by decide +kernel
theorem dX5_forgetDebt_15 : decode cX5_forgetDebt 15 = .ok (.aload_n 0, 1) := by decide +kernel
theorem dX5_forgetDebt_16 : decode cX5_forgetDebt 16 = .ok (.dup, 1) := by decide +kernel
theorem dX5_forgetDebt_17 : decode cX5_forgetDebt 17 = .ok (.getfield 31, 3) := by decide +kernel
theorem dX5_forgetDebt_20 : decode cX5_forgetDebt 20 = .ok (.iconst 1, 1) := by decide +kernel
theorem dX5_forgetDebt_21 : decode cX5_forgetDebt 21 = .ok (.isub, 1) := by decide +kernel
theorem dX5_forgetDebt_22 : decode cX5_forgetDebt 22 = .ok (.putfield 31, 3) := by decide +kernel
theorem dX5_forgetDebt_25 : decode cX5_forgetDebt 25 = .ok (.iload_n 1, 1) := by decide +kernel
theorem dX5_forgetDebt_26 : decode cX5_forgetDebt 26 = .ok (.istore_n 2, 1) := by decide +kernel
theorem dX5_forgetDebt_27 : decode cX5_forgetDebt 27 = .ok (.iload_n 2, 1) := by decide +kernel
theorem dX5_forgetDebt_28 : decode cX5_forgetDebt 28 = .ok (.aload_n 0, 1) := by decide +kernel
theorem dX5_forgetDebt_29 : decode cX5_forgetDebt 29 = .ok (.getfield 31, 3) := by decide +kernel
theorem dX5_forgetDebt_32 : decode cX5_forgetDebt 32 = .ok (.if_icmp .ge 48, 3) := by decide +kernel
theorem dX5_forgetDebt_35 : decode cX5_forgetDebt 35 = .ok (.iload_n 2, 1) := by decide +kernel
theorem dX5_forgetDebt_36 : decode cX5_forgetDebt 36 = .ok (.iconst 1, 1) := by decide +kernel
theorem dX5_forgetDebt_37 : decode cX5_forgetDebt 37 = .ok (.iadd, 1) := by decide +kernel
theorem dX5_forgetDebt_38 : decode cX5_forgetDebt 38 = .ok (.aload_n 0, 1) := by decide +kernel
theorem dX5_forgetDebt_39 : decode cX5_forgetDebt 39 = .ok (.getfield 25, 3) := by decide +kernel
theorem dX5_forgetDebt_42 : decode cX5_forgetDebt 42 = .ok (.arraylength, 1) := by decide +kernel
theorem dX5_forgetDebt_43 : decode cX5_forgetDebt 43 = .ok (.if_icmp .ge 37, 3) := by decide +kernel
theorem dX5_forgetDebt_46 : decode cX5_forgetDebt 46 = .ok (.aload_n 0, 1) := by decide +kernel
theorem dX5_forgetDebt_47 : decode cX5_forgetDebt 47 = .ok (.getfield 25, 3) := by decide +kernel
theorem dX5_forgetDebt_50 : decode cX5_forgetDebt 50 = .ok (.iload_n 2, 1) := by decide +kernel
theorem dX5_forgetDebt_51 : decode cX5_forgetDebt 51 = .ok (.aload_n 0, 1) := by decide +kernel
theorem dX5_forgetDebt_52 : decode cX5_forgetDebt 52 = .ok (.getfield 25, 3) := by decide +kernel
theorem dX5_forgetDebt_55 : decode cX5_forgetDebt 55 = .ok (.iload_n 2, 1) := by decide +kernel
theorem dX5_forgetDebt_56 : decode cX5_forgetDebt 56 = .ok (.iconst 1, 1) := by decide +kernel
theorem dX5_forgetDebt_57 : decode cX5_forgetDebt 57 = .ok (.iadd, 1) := by decide +kernel
theorem dX5_forgetDebt_58 : decode cX5_forgetDebt 58 = .ok (.iaload, 1) := by decide +kernel
theorem dX5_forgetDebt_59 : decode cX5_forgetDebt 59 = .ok (.iastore, 1) := by decide +kernel
theorem dX5_forgetDebt_60 : decode cX5_forgetDebt 60 = .ok (.aload_n 0, 1) := by decide +kernel
theorem dX5_forgetDebt_61 : decode cX5_forgetDebt 61 = .ok (.getfield 28, 3) := by decide +kernel
theorem dX5_forgetDebt_64 : decode cX5_forgetDebt 64 = .ok (.iload_n 2, 1) := by decide +kernel
theorem dX5_forgetDebt_65 : decode cX5_forgetDebt 65 = .ok (.aload_n 0, 1) := by decide +kernel
theorem dX5_forgetDebt_66 : decode cX5_forgetDebt 66 = .ok (.getfield 28, 3) := by decide +kernel
theorem dX5_forgetDebt_69 : decode cX5_forgetDebt 69 = .ok (.iload_n 2, 1) := by decide +kernel
theorem dX5_forgetDebt_70 : decode cX5_forgetDebt 70 = .ok (.iconst 1, 1) := by decide +kernel
theorem dX5_forgetDebt_71 : decode cX5_forgetDebt 71 = .ok (.iadd, 1) := by decide +kernel
theorem dX5_forgetDebt_72 : decode cX5_forgetDebt 72 = .ok (.iaload, 1) := by decide +kernel
theorem dX5_forgetDebt_73 : decode cX5_forgetDebt 73 = .ok (.iastore, 1) := by decide +kernel
theorem dX5_forgetDebt_74 : decode cX5_forgetDebt 74 = .ok (.iinc 2 1, 3) := by decide +kernel
theorem dX5_forgetDebt_77 : decode cX5_forgetDebt 77 = .ok (.goto (-50), 3) := by decide +kernel
theorem dX5_forgetDebt_80 : decode cX5_forgetDebt 80 = .ok (.return_, 1) := by decide +kernel
def f_Rota_forgetDebt_b27 (F : Nat) : Nat → St → Int32 → Option (St)
  | 0, _, _ => none
  | n + 1, s, l2 =>
    if (gI s 774) ≤ l2 then
      (some s)
    else
      (if 4000 ≤ (l2 + 1) then
        (some s)
      else
        ((ix 4000 (l2 + 1)).bind fun j3 => ((ix 4000 l2).bind fun j4 => (lt (sA s 16 j4 (gA s 16 j3)) fun s5 => ((ix 4000 (l2 + 1)).bind fun j6 => ((ix 4000 l2).bind fun j7 => (lt (sA s5 17 j7 (gA s5 17 j6)) fun s8 => (f_Rota_forgetDebt_b27 F n s8 (l2 + 1)))))))))
def f_Rota_forgetDebt (F : Nat) (s : St) (p1 : Int32) : Option (St) :=
  (f_P_isIn F s p1 0 ((gI s 774) - 1)).bind fun x1 => (if x1.1 = 0 then
    (some x1.2)
  else
    (lt (sI x1.2 774 ((gI x1.2 774) - 1)) fun s2 => (f_Rota_forgetDebt_b27 F F s2 p1)))
set_option maxHeartbeats 1000000 in
theorem c_f_Rota_forgetDebt_b27 {F : Nat} {Γ : Ga} {D : DD} {B : Nat} {s' : St} (X : Cx Γ RX5 cX5_forgetDebt 3 D B { frames := 1, cells := 0, slots := 0, locals := 22 }) (hr : (Gme Γ).sig.returnType = none) : ∀ (n : Nat) {s : St} {l2 : Int32}, f_Rota_forgetDebt_b27 F n s l2 = some s' → V Γ D B true 3 (QM Γ D B true s' none 0 0) 0 0 s 27 [(0, .ref (B + 12)), (2, .int l2)] [] := by
  intro n
  induction n with
  | zero => intro s l2 hf; rw [f_Rota_forgetDebt_b27] at hf; cases hf
  | succ n ih =>
    intro s l2 hf
    rw [f_Rota_forgetDebt_b27] at hf
    refine r_iload_n (pc := 27) X dX5_forgetDebt_27 1 rfl ?_
    refine r_aload_n (x := some 12) (pc := 28) X dX5_forgetDebt_28 0 rfl ?_
    refine r_get (j := 6) (pc := 29) X ce_12 rfl inT5 (by decide) w_127 rfl dX5_forgetDebt_29 ?_
    refine b_icmp_ge (tgt := 80) (pc := 32) X dX5_forgetDebt_32 (by decide) hf (fun hf => ?_) (fun hf => ?_)
    · exact e_vret (pc := 80) X hr hf (Nat.le_refl _) (Nat.le_refl _) dX5_forgetDebt_80
    · refine r_iload_n (pc := 35) X dX5_forgetDebt_35 1 rfl ?_
      refine r_iconst (v := 1) (pc := 36) X dX5_forgetDebt_36 (by decide) ?_
      refine r_iadd (pc := 37) X dX5_forgetDebt_37 ?_
      refine r_aload_n (x := some 12) (pc := 38) X dX5_forgetDebt_38 0 rfl ?_
      refine r_get (j := 4) (pc := 39) X ce_12 rfl inT5 (by decide) w_125 rfl dX5_forgetDebt_39 ?_
      refine r_alen (t0 := 1) (v := 4000) (pc := 42) X ce_16 rfl (by decide) dX5_forgetDebt_42 ?_
      refine b_icmp_ge (tgt := 80) (pc := 43) X dX5_forgetDebt_43 (by decide) hf (fun hf => ?_) (fun hf => ?_)
      · exact e_vret (pc := 80) X hr hf (Nat.le_refl _) (Nat.le_refl _) dX5_forgetDebt_80
      · refine r_aload_n (x := some 12) (pc := 46) X dX5_forgetDebt_46 0 rfl ?_
        refine r_get (j := 4) (pc := 47) X ce_12 rfl inT5 (by decide) w_125 rfl dX5_forgetDebt_47 ?_
        refine r_iload_n (pc := 50) X dX5_forgetDebt_50 1 rfl ?_
        refine r_aload_n (x := some 12) (pc := 51) X dX5_forgetDebt_51 0 rfl ?_
        refine r_get (j := 4) (pc := 52) X ce_12 rfl inT5 (by decide) w_125 rfl dX5_forgetDebt_52 ?_
        refine r_iload_n (pc := 55) X dX5_forgetDebt_55 1 rfl ?_
        refine r_iconst (v := 1) (pc := 56) X dX5_forgetDebt_56 (by decide) ?_
        refine r_iadd (pc := 57) X dX5_forgetDebt_57 ?_
        refine b_iald (pc := 58) X ce_16 dX5_forgetDebt_58 hf (fun j3 hf => ?_)
        refine b_iast (pc := 59) X ce_16 (fun _ => ca_16 _ _) dX5_forgetDebt_59 hf (fun j4 s5 hf => ?_)
        refine r_aload_n (x := some 12) (pc := 60) X dX5_forgetDebt_60 0 rfl ?_
        refine r_get (j := 5) (pc := 61) X ce_12 rfl inT5 (by decide) w_126 rfl dX5_forgetDebt_61 ?_
        refine r_iload_n (pc := 64) X dX5_forgetDebt_64 1 rfl ?_
        refine r_aload_n (x := some 12) (pc := 65) X dX5_forgetDebt_65 0 rfl ?_
        refine r_get (j := 5) (pc := 66) X ce_12 rfl inT5 (by decide) w_126 rfl dX5_forgetDebt_66 ?_
        refine r_iload_n (pc := 69) X dX5_forgetDebt_69 1 rfl ?_
        refine r_iconst (v := 1) (pc := 70) X dX5_forgetDebt_70 (by decide) ?_
        refine r_iadd (pc := 71) X dX5_forgetDebt_71 ?_
        refine b_iald (pc := 72) X ce_17 dX5_forgetDebt_72 hf (fun j6 hf => ?_)
        refine b_iast (pc := 73) X ce_17 (fun _ => ca_17 _ _) dX5_forgetDebt_73 hf (fun j7 s8 hf => ?_)
        refine r_iinc (v := l2 + 1) (lv' := [(0, .ref (B + 12)), (2, .int (l2 + 1))]) (pc := 74) X dX5_forgetDebt_74 1 rfl rfl (by decide) [1, 0] rfl ?_
        refine r_goto (tgt := 27) (pc := 77) X dX5_forgetDebt_77 (by decide) ?_
        exact ih hf
set_option maxHeartbeats 1000000 in
theorem c_f_Rota_forgetDebt {F : Nat} {s : St} {p1 : Int32} {s' : St} (hf : f_Rota_forgetDebt F s p1 = some s') : CC true yX5_forgetDebt (Cond.code yX5_forgetDebt cX5_forgetDebt 3 none) 1 22 (fun B => [.ref (B + 12), .int p1]) s (fun B => none) s' 0 0 := by
  refine CC.of (fun B => [(0, .ref (B + 12)), (1, .int p1)]) (by decide +kernel) (fun _ => rfl) (fun _ => (by simp [lg_sl, rfB_cat, catI, catL, catR])) (fun Γ D B X hr hin => ?_)
  have X : Cx Γ RX5 cX5_forgetDebt 3 D B { frames := 1, cells := 0, slots := 0, locals := 22 } := X
  unfold f_Rota_forgetDebt at hf
  refine r_iload_n (pc := 0) X dX5_forgetDebt_0 1 rfl ?_
  refine r_iconst (v := 0) (pc := 1) X dX5_forgetDebt_1 (by decide) ?_
  refine r_aload_n (x := some 12) (pc := 2) X dX5_forgetDebt_2 0 rfl ?_
  refine r_get (j := 6) (pc := 3) X ce_12 rfl inT5 (by decide) w_127 rfl dX5_forgetDebt_3 ?_
  refine r_iconst (v := 1) (pc := 6) X dX5_forgetDebt_6 (by decide) ?_
  refine r_isub (pc := 7) X dX5_forgetDebt_7 ?_
  refine bnd hf (fun x1 h1 hf => ?_)
  refine r_callSNi (As := [.int p1, .int 0, .int ((gI s 774) - 1)]) (st := []) (pc := 8) X (c_f_P_isIn h1) rfl wn_341 w_342 w_36 w_343 hdS_X10_isIn (by decide) (by decide) (by decide) (Nat.le_of_ble_eq_true rfl) dX5_forgetDebt_8 rfl ?_
  refine b_if_ne (tgt := 15) (pc := 11) X dX5_forgetDebt_11 (by decide) hf (fun hf => ?_) (fun hf => ?_)
  · exact e_vret (pc := 14) X hr hf (Nat.le_refl _) (Nat.le_refl _) dX5_forgetDebt_14
  · refine r_aload_n (x := some 12) (pc := 15) X dX5_forgetDebt_15 0 rfl ?_
    refine r_dup (pc := 16) X dX5_forgetDebt_16 rfl ?_
    refine r_get (j := 6) (pc := 17) X ce_12 rfl inT5 (by decide) w_127 rfl dX5_forgetDebt_17 ?_
    refine r_iconst (v := 1) (pc := 20) X dX5_forgetDebt_20 (by decide) ?_
    refine r_isub (pc := 21) X dX5_forgetDebt_21 ?_
    refine b_put (j := 6) (pc := 22) X ce_12 rfl inT5 tyX5 tyX5_ok nmX5 (by decide) w_127 rfl (tyX5_ok 6 (by decide)) rfl rfl (Nat.le_of_ble_eq_true rfl) (cp_774 _) rfl rfl dX5_forgetDebt_22 hf (fun s2 hf => ?_)
    refine r_iload_n (pc := 25) X dX5_forgetDebt_25 1 rfl ?_
    refine r_istore_n (pc := 26) (lv' := [(0, .ref (B + 12)), (2, .int p1)]) X dX5_forgetDebt_26 (by decide) [1, 0] rfl ?_
    exact c_f_Rota_forgetDebt_b27 X hr _ hf
/-! f_Rota_begin -/
theorem dX5_begin_0 : decode cX5_begin 0 = .ok (.iload_n 1, 1) := by decide +kernel
theorem dX5_begin_1 : decode cX5_begin 1 = .ok (.iconst 0, 1) := by decide +kernel
theorem dX5_begin_2 : decode cX5_begin 2 = .ok (.bipush 125, 2) := by decide +kernel
theorem dX5_begin_4 : decode cX5_begin 4 = .ok (.invokestatic 40, 3) := by decide +kernel
theorem dX5_begin_7 : decode cX5_begin 7 = .ok (.ifCond .eq 25, 3) := by decide +kernel
theorem dX5_begin_10 : decode cX5_begin 10 = .ok (.aload_n 0, 1) := by decide +kernel
theorem dX5_begin_11 : decode cX5_begin 11 = .ok (.iload_n 1, 1) := by decide +kernel
theorem dX5_begin_12 : decode cX5_begin 12 = .ok (.invokevirtual 44, 3) := by decide +kernel
theorem dX5_begin_15 : decode cX5_begin 15 = .ok (.istore_n 2, 1) := by decide +kernel
theorem dX5_begin_16 : decode cX5_begin 16 = .ok (.aload_n 0, 1) := by decide +kernel
theorem dX5_begin_17 : decode cX5_begin 17 = .ok (.getfield 22, 3) := by decide +kernel
theorem dX5_begin_20 : decode cX5_begin 20 = .ok (.iload_n 1, 1) := by decide +kernel
theorem dX5_begin_21 : decode cX5_begin 21 = .ok (.aload_n 0, 1) := by decide +kernel
theorem dX5_begin_22 : decode cX5_begin 22 = .ok (.iload_n 1, 1) := by decide +kernel
theorem dX5_begin_23 : decode cX5_begin 23 = .ok (.invokevirtual 59, 3) := by decide +kernel
theorem dX5_begin_26 : decode cX5_begin 26 = .ok (.iastore, 1) := by decide +kernel
theorem dX5_begin_27 : decode cX5_begin 27 = .ok (.aload_n 0, 1) := by decide +kernel
theorem dX5_begin_28 : decode cX5_begin 28 = .ok (.iload_n 2, 1) := by decide +kernel
theorem dX5_begin_29 : decode cX5_begin 29 = .ok (.invokevirtual 62, 3) := by decide +kernel
theorem dX5_begin_32 : decode cX5_begin 32 = .ok (.return_, 1) := by decide +kernel
def f_Rota_begin (F : Nat) (s : St) (p1 : Int32) : Option (St) :=
  (f_P_isIn F s p1 0 125).bind fun x1 => (if x1.1 = 0 then
    (some x1.2)
  else
    ((f_Rota_debtPaidIn F x1.2 p1).bind fun x2 => ((f_Rota_holderToBe F x2.2 p1).bind fun x3 => ((ix 126 p1).bind fun j4 => (lt (sA x3.2 15 j4 x3.1) fun s5 => ((f_Rota_forgetDebt F s5 x2.1).bind fun x6 => (some x6)))))))
set_option maxHeartbeats 1000000 in
theorem c_f_Rota_begin {F : Nat} {s : St} {p1 : Int32} {s' : St} (hf : f_Rota_begin F s p1 = some s') : CC true yX5_begin (Cond.code yX5_begin cX5_begin 3 none) 4 92 (fun B => [.ref (B + 12), .int p1]) s (fun B => none) s' 0 0 := by
  refine CC.of (fun B => [(0, .ref (B + 12)), (1, .int p1)]) (by decide +kernel) (fun _ => rfl) (fun _ => (by simp [lg_sl, rfB_cat, catI, catL, catR])) (fun Γ D B X hr hin => ?_)
  have X : Cx Γ RX5 cX5_begin 3 D B { frames := 4, cells := 0, slots := 0, locals := 92 } := X
  unfold f_Rota_begin at hf
  refine r_iload_n (pc := 0) X dX5_begin_0 1 rfl ?_
  refine r_iconst (v := 0) (pc := 1) X dX5_begin_1 (by decide) ?_
  refine r_bipush (v := 125) (pc := 2) X dX5_begin_2 (by decide) ?_
  refine bnd hf (fun x1 h1 hf => ?_)
  refine r_callSNi (As := [.int p1, .int 0, .int 125]) (st := []) (pc := 4) X (c_f_P_isIn h1) rfl wn_341 w_342 w_36 w_343 hdS_X10_isIn (by decide) (by decide) (by decide) (Nat.le_of_ble_eq_true rfl) dX5_begin_4 rfl ?_
  refine b_if_eq (tgt := 32) (pc := 7) X dX5_begin_7 (by decide) hf (fun hf => ?_) (fun hf => ?_)
  · exact e_vret (pc := 32) X hr hf (Nat.le_refl _) (Nat.le_refl _) dX5_begin_32
  · refine r_aload_n (x := some 12) (pc := 10) X dX5_begin_10 0 rfl ?_
    refine r_iload_n (pc := 11) X dX5_begin_11 1 rfl ?_
    refine bnd hf (fun x2 h2 hf => ?_)
    refine r_callVi (As := [.int p1]) (st := []) (pc := 12) X (c_f_Rota_debtPaidIn h2) rfl w_333 w_335 w_1 w_38 w_336 hdV_X5_debtPaidIn (Rc.s rfl ce_12) (by decide) (by decide) (by decide) (Nat.le_of_ble_eq_true rfl) dX5_begin_12 rfl ?_
    refine r_istore_n (pc := 15) (lv' := [(0, .ref (B + 12)), (1, .int p1), (2, .int x2.1)]) X dX5_begin_15 (by decide) [1, 2, 0] rfl ?_
    refine r_aload_n (x := some 12) (pc := 16) X dX5_begin_16 0 rfl ?_
    refine r_get (j := 3) (pc := 17) X ce_12 rfl inT5 (by decide) w_124 rfl dX5_begin_17 ?_
    refine r_iload_n (pc := 20) X dX5_begin_20 1 rfl ?_
    refine r_aload_n (x := some 12) (pc := 21) X dX5_begin_21 0 rfl ?_
    refine r_iload_n (pc := 22) X dX5_begin_22 1 rfl ?_
    refine bnd hf (fun x3 h3 hf => ?_)
    refine r_callVi (As := [.int p1]) (st := [.int p1, .ref (B + 15)]) (pc := 23) X (c_f_Rota_holderToBe h3) rfl w_494 w_330 w_331 w_38 w_332 hdV_X5_holderToBe (Rc.s rfl ce_12) (by decide) (by decide) (by decide) (Nat.le_of_ble_eq_true rfl) dX5_begin_23 rfl ?_
    refine b_iast (pc := 26) X ce_15 (fun _ => ca_15 _ _) dX5_begin_26 hf (fun j4 s5 hf => ?_)
    refine r_aload_n (x := some 12) (pc := 27) X dX5_begin_27 0 rfl ?_
    refine r_iload_n (pc := 28) X dX5_begin_28 2 rfl ?_
    refine bnd hf (fun x6 h6 hf => ?_)
    refine r_callVv (As := [.int x2.1]) (st := []) (pc := 29) X (c_f_Rota_forgetDebt h6) rfl w_495 w_497 w_5 w_38 w_498 hdV_X5_forgetDebt (Rc.s rfl ce_12) (by decide) (by decide) (by decide) (Nat.le_of_ble_eq_true rfl) dX5_begin_29 rfl ?_
    exact e_vret (pc := 32) X hr hf (Nat.le_refl _) (Nat.le_refl _) dX5_begin_32
/-! f_Rota_holderOf -/
theorem dX5_holderOf_0 : decode cX5_holderOf 0 = .ok (.iload_n 1, 1) := by decide +kernel
theorem dX5_holderOf_1 : decode cX5_holderOf 1 = .ok (.iconst 0, 1) := by decide +kernel
theorem dX5_holderOf_2 : decode cX5_holderOf 2 = .ok (.bipush 125, 2) := by decide +kernel
theorem dX5_holderOf_4 : decode cX5_holderOf 4 = .ok (.invokestatic 40, 3) := by decide +kernel
theorem dX5_holderOf_7 : decode cX5_holderOf 7 = .ok (.ifCond .eq 12, 3) := by decide +kernel
theorem dX5_holderOf_10 : decode cX5_holderOf 10 = .ok (.aload_n 0, 1) := by decide +kernel
theorem dX5_holderOf_11 : decode cX5_holderOf 11 = .ok (.getfield 22, 3) := by decide +kernel
theorem dX5_holderOf_14 : decode cX5_holderOf 14 = .ok (.iload_n 1, 1) := by decide +kernel
theorem dX5_holderOf_15 : decode cX5_holderOf 15 = .ok (.iaload, 1) := by decide +kernel
theorem dX5_holderOf_16 : decode cX5_holderOf 16 = .ok (.goto 4, 3) := by decide +kernel
theorem dX5_holderOf_19 : decode cX5_holderOf 19 = .ok (.iconst (-1), 1) := by decide +kernel
theorem dX5_holderOf_20 : decode cX5_holderOf 20 = .ok (.ireturn, 1) := by decide +kernel
def f_Rota_holderOf (F : Nat) (s : St) (p1 : Int32) : Option (Int32 × St) :=
  (f_P_isIn F s p1 0 125).bind fun x1 => (if x1.1 = 0 then
    (some ((-1), x1.2))
  else
    ((ix 126 p1).bind fun j2 => (some ((gA x1.2 15 j2), x1.2))))
set_option maxHeartbeats 1000000 in
theorem c_f_Rota_holderOf {F : Nat} {s : St} {p1 : Int32} {r : Int32} {s' : St} (hf : f_Rota_holderOf F s p1 = some (r, s')) : CC true yX5_holderOf (Cond.code yX5_holderOf cX5_holderOf 2 (some .int)) 1 22 (fun B => [.ref (B + 12), .int p1]) s (fun B => (some (.int r))) s' 0 0 := by
  refine CC.of (fun B => [(0, .ref (B + 12)), (1, .int p1)]) (by decide +kernel) (fun _ => rfl) (fun _ => (by simp [lg_sl, rfB_cat, catI, catL, catR])) (fun Γ D B X hr hin => ?_)
  have X : Cx Γ RX5 cX5_holderOf 2 D B { frames := 1, cells := 0, slots := 0, locals := 22 } := X
  unfold f_Rota_holderOf at hf
  refine r_iload_n (pc := 0) X dX5_holderOf_0 1 rfl ?_
  refine r_iconst (v := 0) (pc := 1) X dX5_holderOf_1 (by decide) ?_
  refine r_bipush (v := 125) (pc := 2) X dX5_holderOf_2 (by decide) ?_
  refine bnd hf (fun x1 h1 hf => ?_)
  refine r_callSNi (As := [.int p1, .int 0, .int 125]) (st := []) (pc := 4) X (c_f_P_isIn h1) rfl wn_341 w_342 w_36 w_343 hdS_X10_isIn (by decide) (by decide) (by decide) (Nat.le_of_ble_eq_true rfl) dX5_holderOf_4 rfl ?_
  refine b_if_eq (tgt := 19) (pc := 7) X dX5_holderOf_7 (by decide) hf (fun hf => ?_) (fun hf => ?_)
  · refine r_iconst (v := -1) (pc := 19) X dX5_holderOf_19 (by decide) ?_
    exact e_iret (pc := 20) X hr hf (Nat.le_refl _) (Nat.le_refl _) dX5_holderOf_20
  · refine r_aload_n (x := some 12) (pc := 10) X dX5_holderOf_10 0 rfl ?_
    refine r_get (j := 3) (pc := 11) X ce_12 rfl inT5 (by decide) w_124 rfl dX5_holderOf_11 ?_
    refine r_iload_n (pc := 14) X dX5_holderOf_14 1 rfl ?_
    refine b_iald (pc := 15) X ce_15 dX5_holderOf_15 hf (fun j2 hf => ?_)
    refine r_goto (tgt := 20) (pc := 16) X dX5_holderOf_16 (by decide) ?_
    exact e_iret (pc := 20) X hr hf (Nat.le_refl _) (Nat.le_refl _) dX5_holderOf_20
/-! f_Alarms_wakeAll -/
theorem dX0_wakeAll_0 : decode cX0_wakeAll 0 = .ok (.iload_n 1, 1) := by decide +kernel
theorem dX0_wakeAll_1 : decode cX0_wakeAll 1 = .ok (.iconst (-1), 1) := by decide +kernel
theorem dX0_wakeAll_2 : decode cX0_wakeAll 2 = .ok (.if_icmp .ne 4, 3) := by decide +kernel
theorem dX0_wakeAll_5 : decode cX0_wakeAll 5 = .ok (.return_, 1) := by decide +kernel
theorem dX0_wakeAll_6 : decode cX0_wakeAll 6 = .ok (.iconst 0, 1) := by decide +kernel
theorem dX0_wakeAll_7 : decode cX0_wakeAll 7 = .ok (.aload_n 0, 1) := by decide +kernel
theorem dX0_wakeAll_8 : decode cX0_wakeAll 8 = .ok (.getfield 32, 3) := by decide +kernel
theorem dX0_wakeAll_11 : decode cX0_wakeAll 11 = .ok (.invokestatic 39, 3) := by decide +kernel
theorem dX0_wakeAll_14 : decode cX0_wakeAll 14 = .ok (.istore_n 3, 1) := by decide +kernel
theorem dX0_wakeAll_15 : decode cX0_wakeAll 15 = .ok (.iload_n 3, 1) := by decide +kernel
theorem dX0_wakeAll_16 : decode cX0_wakeAll 16 = .ok (.aload_n 0, 1) := by decide +kernel
theorem dX0_wakeAll_17 : decode cX0_wakeAll 17 = .ok (.getfield 28, 3) := by decide +kernel
theorem dX0_wakeAll_20 : decode cX0_wakeAll 20 = .ok (.if_icmp .ge 30, 3) := by decide +kernel
theorem dX0_wakeAll_23 : decode cX0_wakeAll 23 = .ok (.iload_n 3, 1) := by decide +kernel
theorem dX0_wakeAll_24 : decode cX0_wakeAll 24 = .ok (.sipush 4000, 3) := by decide +kernel
theorem dX0_wakeAll_27 : decode cX0_wakeAll 27 = .ok (.if_icmp .ge 23, 3) := by decide +kernel
theorem dX0_wakeAll_30 : decode cX0_wakeAll 30 = .ok (.aload_n 0, 1) := by decide +kernel
theorem dX0_wakeAll_31 : decode cX0_wakeAll 31 = .ok (.getfield 18, 3) := by decide +kernel
theorem dX0_wakeAll_34 : decode cX0_wakeAll 34 = .ok (.iload_n 3, 1) := by decide +kernel
theorem dX0_wakeAll_35 : decode cX0_wakeAll 35 = .ok (.iload_n 1, 1) := by decide +kernel
theorem dX0_wakeAll_36 : decode cX0_wakeAll 36 = .ok (.iastore, 1) := by decide +kernel
theorem dX0_wakeAll_37 : decode cX0_wakeAll 37 = .ok (.aload_n 0, 1) := by decide +kernel
theorem dX0_wakeAll_38 : decode cX0_wakeAll 38 = .ok (.getfield 21, 3) := by decide +kernel
theorem dX0_wakeAll_41 : decode cX0_wakeAll 41 = .ok (.iload_n 3, 1) := by decide +kernel
theorem dX0_wakeAll_42 : decode cX0_wakeAll 42 = .ok (.iload_n 2, 1) := by decide +kernel
theorem dX0_wakeAll_43 : decode cX0_wakeAll 43 = .ok (.iastore, 1) := by decide +kernel
theorem dX0_wakeAll_44 : decode cX0_wakeAll 44 = .ok (.iinc 3 1, 3) := by decide +kernel
theorem dX0_wakeAll_47 : decode cX0_wakeAll 47 = .ok (.goto (-32), 3) := by decide +kernel
theorem dX0_wakeAll_50 : decode cX0_wakeAll 50 = .ok (.aload_n 0, 1) := by decide +kernel
theorem dX0_wakeAll_51 : decode cX0_wakeAll 51 = .ok (.aload_n 0, 1) := by decide +kernel
theorem dX0_wakeAll_52 : decode cX0_wakeAll 52 = .ok (.getfield 28, 3) := by decide +kernel
theorem dX0_wakeAll_55 : decode cX0_wakeAll 55 = .ok (.putfield 32, 3) := by decide +kernel
theorem dX0_wakeAll_58 : decode cX0_wakeAll 58 = .ok (.return_, 1) := by decide +kernel
def f_Alarms_wakeAll_b15 (F : Nat) : Nat → St → Int32 → Int32 → Int32 → Option (St)
  | 0, _, _, _, _ => none
  | n + 1, s, l1, l2, l3 =>
    if (gI s 1157) ≤ l3 then
      (lt (sI s 1158 (gI s 1157)) fun s1 => (some s1))
    else
      (if 4000 ≤ l3 then
        (lt (sI s 1158 (gI s 1157)) fun s2 => (some s2))
      else
        ((ix 4000 l3).bind fun j3 => (lt (sA s 21 j3 l1) fun s4 => ((ix 4000 l3).bind fun j5 => (lt (sA s4 22 j5 l2) fun s6 => (f_Alarms_wakeAll_b15 F n s6 l1 l2 (l3 + 1)))))))
def f_Alarms_wakeAll (F : Nat) (s : St) (p1 : Int32) (p2 : Int32) : Option (St) :=
  if p1 = (-1) then
    (some s)
  else
    (f_Alarms_wakeAll_b15 F F s p1 p2 (if (0 : Int32) < (gI s 1158) then (gI s 1158) else 0))
set_option maxHeartbeats 1000000 in
theorem c_f_Alarms_wakeAll_b15 {F : Nat} {Γ : Ga} {D : DD} {B : Nat} {s' : St} (X : Cx Γ RX0 cX0_wakeAll 4 D B { frames := 1, cells := 0, slots := 0, locals := 13 }) (hr : (Gme Γ).sig.returnType = none) : ∀ (n : Nat) {s : St} {l1 : Int32} {l2 : Int32} {l3 : Int32}, f_Alarms_wakeAll_b15 F n s l1 l2 l3 = some s' → V Γ D B true 4 (QM Γ D B true s' none 0 0) 0 0 s 15 [(0, .ref (B + 18)), (1, .int l1), (2, .int l2), (3, .int l3)] [] := by
  intro n
  induction n with
  | zero => intro s l1 l2 l3 hf; rw [f_Alarms_wakeAll_b15] at hf; cases hf
  | succ n ih =>
    intro s l1 l2 l3 hf
    rw [f_Alarms_wakeAll_b15] at hf
    refine r_iload_n (pc := 15) X dX0_wakeAll_15 3 rfl ?_
    refine r_aload_n (x := some 18) (pc := 16) X dX0_wakeAll_16 0 rfl ?_
    refine r_get (j := 5) (pc := 17) X ce_18 rfl inT0 (by decide) w_160 rfl dX0_wakeAll_17 ?_
    refine b_icmp_ge (tgt := 50) (pc := 20) X dX0_wakeAll_20 (by decide) hf (fun hf => ?_) (fun hf => ?_)
    · refine r_aload_n (x := some 18) (pc := 50) X dX0_wakeAll_50 0 rfl ?_
      refine r_aload_n (x := some 18) (pc := 51) X dX0_wakeAll_51 0 rfl ?_
      refine r_get (j := 5) (pc := 52) X ce_18 rfl inT0 (by decide) w_160 rfl dX0_wakeAll_52 ?_
      refine b_put (j := 6) (pc := 55) X ce_18 rfl inT0 tyX0 tyX0_ok nmX0 (by decide) w_162 rfl (tyX0_ok 6 (by decide)) rfl rfl (Nat.le_of_ble_eq_true rfl) (cp_1158 _) rfl rfl dX0_wakeAll_55 hf (fun s1 hf => ?_)
      exact e_vret (pc := 58) X hr hf (Nat.le_refl _) (Nat.le_refl _) dX0_wakeAll_58
    · refine r_iload_n (pc := 23) X dX0_wakeAll_23 3 rfl ?_
      refine r_sipush (v := 4000) (pc := 24) X dX0_wakeAll_24 (by decide) ?_
      refine b_icmp_ge (tgt := 50) (pc := 27) X dX0_wakeAll_27 (by decide) hf (fun hf => ?_) (fun hf => ?_)
      · refine r_aload_n (x := some 18) (pc := 50) X dX0_wakeAll_50 0 rfl ?_
        refine r_aload_n (x := some 18) (pc := 51) X dX0_wakeAll_51 0 rfl ?_
        refine r_get (j := 5) (pc := 52) X ce_18 rfl inT0 (by decide) w_160 rfl dX0_wakeAll_52 ?_
        refine b_put (j := 6) (pc := 55) X ce_18 rfl inT0 tyX0 tyX0_ok nmX0 (by decide) w_162 rfl (tyX0_ok 6 (by decide)) rfl rfl (Nat.le_of_ble_eq_true rfl) (cp_1158 _) rfl rfl dX0_wakeAll_55 hf (fun s2 hf => ?_)
        exact e_vret (pc := 58) X hr hf (Nat.le_refl _) (Nat.le_refl _) dX0_wakeAll_58
      · refine r_aload_n (x := some 18) (pc := 30) X dX0_wakeAll_30 0 rfl ?_
        refine r_get (j := 2) (pc := 31) X ce_18 rfl inT0 (by decide) w_154 rfl dX0_wakeAll_31 ?_
        refine r_iload_n (pc := 34) X dX0_wakeAll_34 3 rfl ?_
        refine r_iload_n (pc := 35) X dX0_wakeAll_35 1 rfl ?_
        refine b_iast (pc := 36) X ce_21 (fun _ => ca_21 _ _) dX0_wakeAll_36 hf (fun j3 s4 hf => ?_)
        refine r_aload_n (x := some 18) (pc := 37) X dX0_wakeAll_37 0 rfl ?_
        refine r_get (j := 3) (pc := 38) X ce_18 rfl inT0 (by decide) w_156 rfl dX0_wakeAll_38 ?_
        refine r_iload_n (pc := 41) X dX0_wakeAll_41 3 rfl ?_
        refine r_iload_n (pc := 42) X dX0_wakeAll_42 2 rfl ?_
        refine b_iast (pc := 43) X ce_22 (fun _ => ca_22 _ _) dX0_wakeAll_43 hf (fun j5 s6 hf => ?_)
        refine r_iinc (v := l3 + 1) (lv' := [(0, .ref (B + 18)), (1, .int l1), (2, .int l2), (3, .int (l3 + 1))]) (pc := 44) X dX0_wakeAll_44 3 rfl rfl (by decide) [1, 2, 3, 0] rfl ?_
        refine r_goto (tgt := 15) (pc := 47) X dX0_wakeAll_47 (by decide) ?_
        exact ih hf
set_option maxHeartbeats 1000000 in
theorem c_f_Alarms_wakeAll {F : Nat} {s : St} {p1 : Int32} {p2 : Int32} {s' : St} (hf : f_Alarms_wakeAll F s p1 p2 = some s') : CC true yX0_wakeAll (Cond.code yX0_wakeAll cX0_wakeAll 4 none) 1 13 (fun B => [.ref (B + 18), .int p1, .int p2]) s (fun B => none) s' 0 0 := by
  refine CC.of (fun B => [(0, .ref (B + 18)), (1, .int p1), (2, .int p2)]) (by decide +kernel) (fun _ => rfl) (fun _ => (by simp [lg_sl, rfB_cat, catI, catL, catR])) (fun Γ D B X hr hin => ?_)
  have X : Cx Γ RX0 cX0_wakeAll 4 D B { frames := 1, cells := 0, slots := 0, locals := 13 } := X
  unfold f_Alarms_wakeAll at hf
  refine r_iload_n (pc := 0) X dX0_wakeAll_0 1 rfl ?_
  refine r_iconst (v := -1) (pc := 1) X dX0_wakeAll_1 (by decide) ?_
  refine b_icmp_ne (tgt := 6) (pc := 2) X dX0_wakeAll_2 (by decide) hf (fun hf => ?_) (fun hf => ?_)
  · exact e_vret (pc := 5) X hr hf (Nat.le_refl _) (Nat.le_refl _) dX0_wakeAll_5
  · refine r_iconst (v := 0) (pc := 6) X dX0_wakeAll_6 (by decide) ?_
    refine r_aload_n (x := some 18) (pc := 7) X dX0_wakeAll_7 0 rfl ?_
    refine r_get (j := 6) (pc := 8) X ce_18 rfl inT0 (by decide) w_162 rfl dX0_wakeAll_8 ?_
    refine r_max (pc := 11) X w_507 w_508 w_51 w_maxcode ⟨Nat.le_of_ble_eq_true rfl, Nat.le_of_ble_eq_true rfl⟩ (by decide) (by decide) dX0_wakeAll_11 ?_
    refine r_istore_n (pc := 14) (lv' := [(0, .ref (B + 18)), (1, .int p1), (2, .int p2), (3, .int (if (0 : Int32) < (gI s 1158) then (gI s 1158) else 0))]) X dX0_wakeAll_14 (by decide) [1, 2, 3, 0] rfl ?_
    exact c_f_Alarms_wakeAll_b15 X hr _ hf
/-! f_Rule_isDropped -/
theorem dX6_isDropped_0 : decode cX6_isDropped 0 = .ok (.aload_n 0, 1) := by decide +kernel
theorem dX6_isDropped_1 : decode cX6_isDropped 1 = .ok (.getfield 9, 3) := by decide +kernel
theorem dX6_isDropped_4 : decode cX6_isDropped 4 = .ok (.iconst (-1), 1) := by decide +kernel
theorem dX6_isDropped_5 : decode cX6_isDropped 5 = .ok (.if_icmp .eq 7, 3) := by decide +kernel
theorem dX6_isDropped_8 : decode cX6_isDropped 8 = .ok (.iconst 1, 1) := by decide +kernel
theorem dX6_isDropped_9 : decode cX6_isDropped 9 = .ok (.goto 4, 3) := by decide +kernel
theorem dX6_isDropped_12 : decode cX6_isDropped 12 = .ok (.iconst 0, 1) := by decide +kernel
theorem dX6_isDropped_13 : decode cX6_isDropped 13 = .ok (.ireturn, 1) := by decide +kernel
def f_Rule_isDropped (F : Nat) (s : St) (p0 : Option Nat) : Option (Int32 × St) :=
  (dgo s p0 6).bind fun o1 => (if (o1.2.1 5) = (-1) then
    (some (0, s))
  else
    (some (1, s)))
set_option maxHeartbeats 1000000 in
theorem c_f_Rule_isDropped {F : Nat} {s : St} {p0 : Option Nat} {r : Int32} {s' : St} (hf : f_Rule_isDropped F s p0 = some (r, s')) : CC true yX6_isDropped (Cond.code yX6_isDropped cX6_isDropped 1 (some .boolean)) 0 0 (fun B => [rfB B p0]) s (fun B => (some (.int r))) s' 0 0 := by
  refine CC.of (fun B => [(0, rfB B p0)]) (by decide +kernel) (fun _ => (by simp [lv_args, rfB_cat, catI, catL, catR])) (fun _ => (by simp [lg_sl, rfB_cat, catI, catL, catR])) (fun Γ D B X hr hin => ?_)
  have X : Cx Γ RX6 cX6_isDropped 1 D B { frames := 0, cells := 0, slots := 0, locals := 0 } := X
  unfold f_Rule_isDropped at hf
  refine r_aload_n (pc := 0) X dX6_isDropped_0 0 rfl ?_
  refine b_dgetI (j := 5) (pc := 1) X rfl inT6 (by decide) w_725 rfl dX6_isDropped_1 hf (fun o1 hf => ?_)
  refine r_iconst (v := -1) (pc := 4) X dX6_isDropped_4 (by decide) ?_
  refine b_icmp_eq (tgt := 12) (pc := 5) X dX6_isDropped_5 (by decide) hf (fun hf => ?_) (fun hf => ?_)
  · refine r_iconst (v := 0) (pc := 12) X dX6_isDropped_12 (by decide) ?_
    exact e_zret (pc := 13) X hr (by decide) hf (Nat.le_refl _) (Nat.le_refl _) dX6_isDropped_13
  · refine r_iconst (v := 1) (pc := 8) X dX6_isDropped_8 (by decide) ?_
    refine r_goto (tgt := 13) (pc := 9) X dX6_isDropped_9 (by decide) ?_
    exact e_zret (pc := 13) X hr (by decide) hf (Nat.le_refl _) (Nat.le_refl _) dX6_isDropped_13
/-! f_Rule_hasRested -/
theorem dX6_hasRested_0 : decode cX6_hasRested 0 = .ok (.iload_n 2, 1) := by decide +kernel
theorem dX6_hasRested_1 : decode cX6_hasRested 1 = .ok (.iconst (-1), 1) := by decide +kernel
theorem dX6_hasRested_2 : decode cX6_hasRested 2 = .ok (.if_icmp .eq 13, 3) := by decide +kernel
theorem dX6_hasRested_5 : decode cX6_hasRested 5 = .ok (.iload_n 1, 1) := by decide +kernel
theorem dX6_hasRested_6 : decode cX6_hasRested 6 = .ok (.iload_n 2, 1) := by decide +kernel
theorem dX6_hasRested_7 : decode cX6_hasRested 7 = .ok (.isub, 1) := by decide +kernel
theorem dX6_hasRested_8 : decode cX6_hasRested 8 = .ok (.aload_n 0, 1) := by decide +kernel
theorem dX6_hasRested_9 : decode cX6_hasRested 9 = .ok (.getfield 41, 3) := by decide +kernel
theorem dX6_hasRested_12 : decode cX6_hasRested 12 = .ok (.if_icmp .le 7, 3) := by decide +kernel
theorem dX6_hasRested_15 : decode cX6_hasRested 15 = .ok (.iconst 1, 1) := by decide +kernel
theorem dX6_hasRested_16 : decode cX6_hasRested 16 = .ok (.goto 4, 3) := by decide +kernel
theorem dX6_hasRested_19 : decode cX6_hasRested 19 = .ok (.iconst 0, 1) := by decide +kernel
theorem dX6_hasRested_20 : decode cX6_hasRested 20 = .ok (.ireturn, 1) := by decide +kernel
def f_Rule_hasRested (F : Nat) (s : St) (p0 : Option Nat) (p1 : Int32) (p2 : Int32) : Option (Int32 × St) :=
  if p2 = (-1) then
    (some (1, s))
  else
    ((dgo s p0 6).bind fun o1 => (if (p1 - p2) ≤ (o1.2.1 3) then
      (some (0, s))
    else
      (some (1, s))))
set_option maxHeartbeats 1000000 in
theorem c_f_Rule_hasRested {F : Nat} {s : St} {p0 : Option Nat} {p1 : Int32} {p2 : Int32} {r : Int32} {s' : St} (hf : f_Rule_hasRested F s p0 p1 p2 = some (r, s')) : CC true yX6_hasRested (Cond.code yX6_hasRested cX6_hasRested 3 (some .boolean)) 0 0 (fun B => [rfB B p0, .int p1, .int p2]) s (fun B => (some (.int r))) s' 0 0 := by
  refine CC.of (fun B => [(0, rfB B p0), (1, .int p1), (2, .int p2)]) (by decide +kernel) (fun _ => (by simp [lv_args, rfB_cat, catI, catL, catR])) (fun _ => (by simp [lg_sl, rfB_cat, catI, catL, catR])) (fun Γ D B X hr hin => ?_)
  have X : Cx Γ RX6 cX6_hasRested 3 D B { frames := 0, cells := 0, slots := 0, locals := 0 } := X
  unfold f_Rule_hasRested at hf
  refine r_iload_n (pc := 0) X dX6_hasRested_0 2 rfl ?_
  refine r_iconst (v := -1) (pc := 1) X dX6_hasRested_1 (by decide) ?_
  refine b_icmp_eq (tgt := 15) (pc := 2) X dX6_hasRested_2 (by decide) hf (fun hf => ?_) (fun hf => ?_)
  · refine r_iconst (v := 1) (pc := 15) X dX6_hasRested_15 (by decide) ?_
    refine r_goto (tgt := 20) (pc := 16) X dX6_hasRested_16 (by decide) ?_
    exact e_zret (pc := 20) X hr (by decide) hf (Nat.le_refl _) (Nat.le_refl _) dX6_hasRested_20
  · refine r_iload_n (pc := 5) X dX6_hasRested_5 1 rfl ?_
    refine r_iload_n (pc := 6) X dX6_hasRested_6 2 rfl ?_
    refine r_isub (pc := 7) X dX6_hasRested_7 ?_
    refine r_aload_n (pc := 8) X dX6_hasRested_8 0 rfl ?_
    refine b_dgetI (j := 3) (pc := 9) X rfl inT6 (by decide) w_722 rfl dX6_hasRested_9 hf (fun o1 hf => ?_)
    refine b_icmp_le (tgt := 19) (pc := 12) X dX6_hasRested_12 (by decide) hf (fun hf => ?_) (fun hf => ?_)
    · refine r_iconst (v := 0) (pc := 19) X dX6_hasRested_19 (by decide) ?_
      exact e_zret (pc := 20) X hr (by decide) hf (Nat.le_refl _) (Nat.le_refl _) dX6_hasRested_20
    · refine r_iconst (v := 1) (pc := 15) X dX6_hasRested_15 (by decide) ?_
      refine r_goto (tgt := 20) (pc := 16) X dX6_hasRested_16 (by decide) ?_
      exact e_zret (pc := 20) X hr (by decide) hf (Nat.le_refl _) (Nat.le_refl _) dX6_hasRested_20
/-! f_Rule_isSilentIn -/
theorem dX6_isSilentIn_0 : decode cX6_isSilentIn 0 = .ok (.iconst 0, 1) := by decide +kernel
theorem dX6_isSilentIn_1 : decode cX6_isSilentIn 1 = .ok (.istore_n 2, 1) := by decide +kernel
theorem dX6_isSilentIn_2 : decode cX6_isSilentIn 2 = .ok (.iload_n 2, 1) := by decide +kernel
theorem dX6_isSilentIn_3 : decode cX6_isSilentIn 3 = .ok (.aload_n 0, 1) := by decide +kernel
theorem dX6_isSilentIn_4 : decode cX6_isSilentIn 4 = .ok (.getfield 22, 3) := by decide +kernel
theorem dX6_isSilentIn_7 : decode cX6_isSilentIn 7 = .ok (.if_icmp .ge 35, 3) := by decide +kernel
theorem dX6_isSilentIn_10 : decode cX6_isSilentIn 10 = .ok (.iload_n 2, 1) := by decide +kernel
theorem dX6_isSilentIn_11 : decode cX6_isSilentIn 11 = .ok (.iconst 5, 1) := by decide +kernel
theorem dX6_isSilentIn_12 : decode cX6_isSilentIn 12 = .ok (.if_icmp .ge 30, 3) := by decide +kernel
theorem dX6_isSilentIn_15 : decode cX6_isSilentIn 15 = .ok (.iload_n 1, 1) := by decide +kernel
theorem dX6_isSilentIn_16 : decode cX6_isSilentIn 16 = .ok (.aload_n 0, 1) := by decide +kernel
theorem dX6_isSilentIn_17 : decode cX6_isSilentIn 17 = .ok (.getfield 15, 3) := by decide +kernel
theorem dX6_isSilentIn_20 : decode cX6_isSilentIn 20 = .ok (.iload_n 2, 1) := by decide +kernel
theorem dX6_isSilentIn_21 : decode cX6_isSilentIn 21 = .ok (.iaload, 1) := by decide +kernel
theorem dX6_isSilentIn_22 : decode cX6_isSilentIn 22 = .ok (.aload_n 0, 1) := by decide +kernel
theorem dX6_isSilentIn_23 : decode cX6_isSilentIn 23 = .ok (.getfield 19, 3) := by decide +kernel
theorem dX6_isSilentIn_26 : decode cX6_isSilentIn 26 = .ok (.iload_n 2, 1) := by decide +kernel
theorem dX6_isSilentIn_27 : decode cX6_isSilentIn 27 = .ok (.iaload, 1) := by decide +kernel
theorem dX6_isSilentIn_28 : decode cX6_isSilentIn 28 = .ok (.invokestatic 47, 3) := by decide +kernel
theorem dX6_isSilentIn_31 : decode cX6_isSilentIn 31 = .ok (.ifCond .eq 5, 3) := by decide +kernel
theorem dX6_isSilentIn_34 : decode cX6_isSilentIn 34 = .ok (.iconst 1, 1) := by decide +kernel
theorem dX6_isSilentIn_35 : decode cX6_isSilentIn 35 = .ok (.ireturn, 1) := by decide +kernel
theorem dX6_isSilentIn_36 : decode cX6_isSilentIn 36 = .ok (.iinc 2 1, 3) := by decide +kernel
theorem dX6_isSilentIn_39 : decode cX6_isSilentIn 39 = .ok (.goto (-37), 3) := by decide +kernel
theorem dX6_isSilentIn_42 : decode cX6_isSilentIn 42 = .ok (.iconst 0, 1) := by decide +kernel
theorem dX6_isSilentIn_43 : decode cX6_isSilentIn 43 = .ok (.ireturn, 1) := by decide +kernel
def f_Rule_isSilentIn_b2 (F : Nat) : Nat → St → Option Nat → Int32 → Int32 → Option (Int32 × St)
  | 0, _, _, _, _ => none
  | n + 1, s, l0, l1, l2 =>
    (dgo s l0 6).bind fun o1 => (if (o1.2.1 8) ≤ l2 then
      (some (0, s))
    else
      (if 5 ≤ l2 then
        (some (0, s))
      else
        ((dgo s l0 6).bind fun o2 => ((dga s (o2.2.2.1 6) 1).bind fun o3 => ((ix o3.2.1 l2).bind fun j4 => ((dgo s l0 6).bind fun o5 => ((dga s (o5.2.2.1 7) 1).bind fun o6 => ((ix o6.2.1 l2).bind fun j7 => ((f_P_isIn F s l1 (o3.2.2 j4) (o6.2.2 j7)).bind fun x8 => (if x8.1 = 0 then
          (f_Rule_isSilentIn_b2 F n x8.2 l0 l1 (l2 + 1))
        else
          (some (1, x8.2))))))))))))
def f_Rule_isSilentIn (F : Nat) (s : St) (p0 : Option Nat) (p1 : Int32) : Option (Int32 × St) :=
  f_Rule_isSilentIn_b2 F F s p0 p1 0
set_option maxHeartbeats 1000000 in
theorem c_f_Rule_isSilentIn_b2 {F : Nat} {Γ : Ga} {D : DD} {B : Nat} {r : Int32} {s' : St} (X : Cx Γ RX6 cX6_isSilentIn 3 D B { frames := 1, cells := 0, slots := 0, locals := 22 }) (hr : (Gme Γ).sig.returnType = (some .boolean)) : ∀ (n : Nat) {s : St} {l0 : Option Nat} {l1 : Int32} {l2 : Int32}, f_Rule_isSilentIn_b2 F n s l0 l1 l2 = some (r, s') → V Γ D B true 3 (QM Γ D B true s' (some (.int r)) 0 0) 0 0 s 2 [(0, rfB B l0), (1, .int l1), (2, .int l2)] [] := by
  intro n
  induction n with
  | zero => intro s l0 l1 l2 hf; rw [f_Rule_isSilentIn_b2] at hf; cases hf
  | succ n ih =>
    intro s l0 l1 l2 hf
    rw [f_Rule_isSilentIn_b2] at hf
    refine r_iload_n (pc := 2) X dX6_isSilentIn_2 2 rfl ?_
    refine r_aload_n (pc := 3) X dX6_isSilentIn_3 0 rfl ?_
    refine b_dgetI (j := 8) (pc := 4) X rfl inT6 (by decide) w_729 rfl dX6_isSilentIn_4 hf (fun o1 hf => ?_)
    refine b_icmp_ge (tgt := 42) (pc := 7) X dX6_isSilentIn_7 (by decide) hf (fun hf => ?_) (fun hf => ?_)
    · refine r_iconst (v := 0) (pc := 42) X dX6_isSilentIn_42 (by decide) ?_
      exact e_zret (pc := 43) X hr (by decide) hf (Nat.le_refl _) (Nat.le_refl _) dX6_isSilentIn_43
    · refine r_iload_n (pc := 10) X dX6_isSilentIn_10 2 rfl ?_
      refine r_iconst (v := 5) (pc := 11) X dX6_isSilentIn_11 (by decide) ?_
      refine b_icmp_ge (tgt := 42) (pc := 12) X dX6_isSilentIn_12 (by decide) hf (fun hf => ?_) (fun hf => ?_)
      · refine r_iconst (v := 0) (pc := 42) X dX6_isSilentIn_42 (by decide) ?_
        exact e_zret (pc := 43) X hr (by decide) hf (Nat.le_refl _) (Nat.le_refl _) dX6_isSilentIn_43
      · refine r_iload_n (pc := 15) X dX6_isSilentIn_15 1 rfl ?_
        refine r_aload_n (pc := 16) X dX6_isSilentIn_16 0 rfl ?_
        refine b_dgetR (j := 6) (pc := 17) X rfl inT6 (by decide) w_727 rfl dX6_isSilentIn_17 hf (fun o2 hf => ?_)
        refine r_iload_n (pc := 20) X dX6_isSilentIn_20 2 rfl ?_
        refine b_dald (pc := 21) X dX6_isSilentIn_21 hf (fun o3 j4 hf => ?_)
        refine r_aload_n (pc := 22) X dX6_isSilentIn_22 0 rfl ?_
        refine b_dgetR (j := 7) (pc := 23) X rfl inT6 (by decide) w_728 rfl dX6_isSilentIn_23 hf (fun o5 hf => ?_)
        refine r_iload_n (pc := 26) X dX6_isSilentIn_26 2 rfl ?_
        refine b_dald (pc := 27) X dX6_isSilentIn_27 hf (fun o6 j7 hf => ?_)
        refine bnd hf (fun x8 h8 hf => ?_)
        refine r_callSNi (As := [.int l1, .int (o3.2.2 j4), .int (o6.2.2 j7)]) (st := []) (pc := 28) X (c_f_P_isIn h8) rfl wn_526 w_342 w_36 w_343 hdS_X10_isIn (by decide) (by decide) (by decide) (Nat.le_of_ble_eq_true rfl) dX6_isSilentIn_28 rfl ?_
        refine b_if_eq (tgt := 36) (pc := 31) X dX6_isSilentIn_31 (by decide) hf (fun hf => ?_) (fun hf => ?_)
        · refine r_iinc (v := l2 + 1) (lv' := [(0, rfB B l0), (1, .int l1), (2, .int (l2 + 1))]) (pc := 36) X dX6_isSilentIn_36 2 rfl rfl (by decide) [1, 2, 0] rfl ?_
          refine r_goto (tgt := 2) (pc := 39) X dX6_isSilentIn_39 (by decide) ?_
          exact ih hf
        · refine r_iconst (v := 1) (pc := 34) X dX6_isSilentIn_34 (by decide) ?_
          exact e_zret (pc := 35) X hr (by decide) hf (Nat.le_refl _) (Nat.le_refl _) dX6_isSilentIn_35
set_option maxHeartbeats 1000000 in
theorem c_f_Rule_isSilentIn {F : Nat} {s : St} {p0 : Option Nat} {p1 : Int32} {r : Int32} {s' : St} (hf : f_Rule_isSilentIn F s p0 p1 = some (r, s')) : CC true yX6_isSilentIn (Cond.code yX6_isSilentIn cX6_isSilentIn 3 (some .boolean)) 1 22 (fun B => [rfB B p0, .int p1]) s (fun B => (some (.int r))) s' 0 0 := by
  refine CC.of (fun B => [(0, rfB B p0), (1, .int p1)]) (by decide +kernel) (fun _ => (by simp [lv_args, rfB_cat, catI, catL, catR])) (fun _ => (by simp [lg_sl, rfB_cat, catI, catL, catR])) (fun Γ D B X hr hin => ?_)
  have X : Cx Γ RX6 cX6_isSilentIn 3 D B { frames := 1, cells := 0, slots := 0, locals := 22 } := X
  unfold f_Rule_isSilentIn at hf
  refine r_iconst (v := 0) (pc := 0) X dX6_isSilentIn_0 (by decide) ?_
  refine r_istore_n (pc := 1) (lv' := [(0, rfB B p0), (1, .int p1), (2, .int 0)]) X dX6_isSilentIn_1 (by decide) [1, 2, 0] rfl ?_
  exact c_f_Rule_isSilentIn_b2 X hr _ hf
/-! f_Logs_pick -/
theorem dX2_pick_0 : decode cX2_pick 0 = .ok (.aload_n 0, 1) := by decide +kernel
theorem dX2_pick_1 : decode cX2_pick 1 = .ok (.iconst 0, 1) := by decide +kernel
theorem dX2_pick_2 : decode cX2_pick 2 = .ok (.putfield 40, 3) := by decide +kernel
theorem dX2_pick_5 : decode cX2_pick 5 = .ok (.iload_n 1, 1) := by decide +kernel
theorem dX2_pick_6 : decode cX2_pick 6 = .ok (.iload_n 2, 1) := by decide +kernel
theorem dX2_pick_7 : decode cX2_pick 7 = .ok (.iconst 0, 1) := by decide +kernel
theorem dX2_pick_8 : decode cX2_pick 8 = .ok (.sipush 1000, 3) := by decide +kernel
theorem dX2_pick_11 : decode cX2_pick 11 = .ok (.invokestatic 51, 3) := by decide +kernel
theorem dX2_pick_14 : decode cX2_pick 14 = .ok (.ifCond .ne 4, 3) := by decide +kernel
theorem dX2_pick_17 : decode cX2_pick 17 = .ok (.return_, 1) := by decide +kernel
theorem dX2_pick_18 : decode cX2_pick 18 = .ok (.aload_n 0, 1) := by decide +kernel
theorem dX2_pick_19 : decode cX2_pick 19 = .ok (.getfield 30, 3) := by decide +kernel
theorem dX2_pick_22 : decode cX2_pick 22 = .ok (.iload_n 2, 1) := by decide +kernel
theorem dX2_pick_23 : decode cX2_pick 23 = .ok (.iconst 1, 1) := by decide +kernel
theorem dX2_pick_24 : decode cX2_pick 24 = .ok (.iadd, 1) := by decide +kernel
theorem dX2_pick_25 : decode cX2_pick 25 = .ok (.iaload, 1) := by decide +kernel
theorem dX2_pick_26 : decode cX2_pick 26 = .ok (.aload_n 0, 1) := by decide +kernel
theorem dX2_pick_27 : decode cX2_pick 27 = .ok (.getfield 36, 3) := by decide +kernel
theorem dX2_pick_30 : decode cX2_pick 30 = .ok (.invokestatic 55, 3) := by decide +kernel
theorem dX2_pick_33 : decode cX2_pick 33 = .ok (.istore 4, 2) := by decide +kernel
theorem dX2_pick_35 : decode cX2_pick 35 = .ok (.iconst 0, 1) := by decide +kernel
theorem dX2_pick_36 : decode cX2_pick 36 = .ok (.aload_n 0, 1) := by decide +kernel
theorem dX2_pick_37 : decode cX2_pick 37 = .ok (.getfield 30, 3) := by decide +kernel
theorem dX2_pick_40 : decode cX2_pick 40 = .ok (.iload_n 1, 1) := by decide +kernel
theorem dX2_pick_41 : decode cX2_pick 41 = .ok (.iaload, 1) := by decide +kernel
theorem dX2_pick_42 : decode cX2_pick 42 = .ok (.invokestatic 61, 3) := by decide +kernel
theorem dX2_pick_45 : decode cX2_pick 45 = .ok (.istore 5, 2) := by decide +kernel
theorem dX2_pick_47 : decode cX2_pick 47 = .ok (.iload 5, 2) := by decide +kernel
theorem dX2_pick_49 : decode cX2_pick 49 = .ok (.iload 4, 2) := by decide +kernel
theorem dX2_pick_51 : decode cX2_pick 51 = .ok (.if_icmp .ge 80, 3) := by decide +kernel
theorem dX2_pick_54 : decode cX2_pick 54 = .ok (.iload 5, 2) := by decide +kernel
theorem dX2_pick_56 : decode cX2_pick 56 = .ok (.aload_n 0, 1) := by decide +kernel
theorem dX2_pick_57 : decode cX2_pick 57 = .ok (.getfield 27, 3) := by decide +kernel
theorem dX2_pick_60 : decode cX2_pick 60 = .ok (.arraylength, 1) := by decide +kernel
theorem dX2_pick_61 : decode cX2_pick 61 = .ok (.if_icmp .ge 70, 3) := by decide +kernel
theorem dX2_pick_64 : decode cX2_pick 64 = .ok (.aload_n 0, 1) := by decide +kernel
theorem dX2_pick_65 : decode cX2_pick 65 = .ok (.getfield 27, 3) := by decide +kernel
theorem dX2_pick_68 : decode cX2_pick 68 = .ok (.iload 5, 2) := by decide +kernel
theorem dX2_pick_70 : decode cX2_pick 70 = .ok (.iaload, 1) := by decide +kernel
theorem dX2_pick_71 : decode cX2_pick 71 = .ok (.istore 6, 2) := by decide +kernel
theorem dX2_pick_73 : decode cX2_pick 73 = .ok (.iload 6, 2) := by decide +kernel
theorem dX2_pick_75 : decode cX2_pick 75 = .ok (.iconst 0, 1) := by decide +kernel
theorem dX2_pick_76 : decode cX2_pick 76 = .ok (.bipush 99, 2) := by decide +kernel
theorem dX2_pick_78 : decode cX2_pick 78 = .ok (.invokestatic 43, 3) := by decide +kernel
theorem dX2_pick_81 : decode cX2_pick 81 = .ok (.ifCond .eq 44, 3) := by decide +kernel
theorem dX2_pick_84 : decode cX2_pick 84 = .ok (.aload_n 0, 1) := by decide +kernel
theorem dX2_pick_85 : decode cX2_pick 85 = .ok (.getfield 24, 3) := by decide +kernel
theorem dX2_pick_88 : decode cX2_pick 88 = .ok (.iload 6, 2) := by decide +kernel
theorem dX2_pick_90 : decode cX2_pick 90 = .ok (.iaload, 1) := by decide +kernel
theorem dX2_pick_91 : decode cX2_pick 91 = .ok (.iload_n 3, 1) := by decide +kernel
theorem dX2_pick_92 : decode cX2_pick 92 = .ok (.if_icmp .gt 33, 3) := by decide +kernel
theorem dX2_pick_95 : decode cX2_pick 95 = .ok (.aload_n 0, 1) := by decide +kernel
theorem dX2_pick_96 : decode cX2_pick 96 = .ok (.getfield 40, 3) := by decide +kernel
theorem dX2_pick_99 : decode cX2_pick 99 = .ok (.bipush 100, 2) := by decide +kernel
theorem dX2_pick_101 : decode cX2_pick 101 = .ok (.if_icmp .ge 24, 3) := by decide +kernel
theorem dX2_pick_104 : decode cX2_pick 104 = .ok (.aload_n 0, 1) := by decide +kernel
theorem dX2_pick_105 : decode cX2_pick 105 = .ok (.getfield 33, 3) := by decide +kernel
theorem dX2_pick_108 : decode cX2_pick 108 = .ok (.aload_n 0, 1) := by decide +kernel
theorem dX2_pick_109 : decode cX2_pick 109 = .ok (.getfield 40, 3) := by decide +kernel
theorem dX2_pick_112 : decode cX2_pick 112 = .ok (.iload 6, 2) := by decide +kernel
theorem dX2_pick_114 : decode cX2_pick 114 = .ok (.iastore, 1) := by decide +kernel
theorem dX2_pick_115 : decode cX2_pick 115 = .ok (.aload_n 0, 1) := by decide +kernel
theorem dX2_pick_116 : decode cX2_pick 116 = .ok (.dup, 1) := by decide +kernel
theorem dX2_pick_117 : decode cX2_pick 117 = .ok (.getfield 40, 3) := by decide +kernel
theorem dX2_pick_120 : decode cX2_pick 120 = .ok (.iconst 1, 1) := by decide +kernel
theorem dX2_pick_121 : decode cX2_pick 121 = .ok (.iadd, 1) := by decide +kernel
theorem dX2_pick_122 : decode cX2_pick 122 = .ok (.putfield 40, 3) := by decide +kernel
theorem dX2_pick_125 : decode cX2_pick 125 = .ok (.iinc 5 1, 3) := by decide +kernel
theorem dX2_pick_128 : decode cX2_pick 128 = .ok (.goto (-81), 3) := by decide +kernel
theorem dX2_pick_131 : decode cX2_pick 131 = .ok (.return_, 1) := by decide +kernel
def f_Logs_pick_b47 (F : Nat) : Nat → St → Int32 → Int32 → Int32 → Option (St)
  | 0, _, _, _, _ => none
  | n + 1, s, l3, l4, l5 =>
    if l4 ≤ l5 then
      (some s)
    else
      (if 100 ≤ l5 then
        (some s)
      else
        ((ix 100 l5).bind fun j6 => ((f_P_isIn F s (gA s 9 j6) 0 99).bind fun x7 => (if x7.1 = 0 then
          (f_Logs_pick_b47 F n x7.2 l3 l4 (l5 + 1))
        else
          ((ix 100 (gA s 9 j6)).bind fun j8 => (if l3 < (gA x7.2 8 j8) then
            (f_Logs_pick_b47 F n x7.2 l3 l4 (l5 + 1))
          else
            (if 100 ≤ (gI x7.2 201) then
              (f_Logs_pick_b47 F n x7.2 l3 l4 (l5 + 1))
            else
              ((ix 100 (gI x7.2 201)).bind fun j9 => (lt (sA x7.2 11 j9 (gA s 9 j6)) fun s10 => (lt (sI s10 201 ((gI s10 201) + 1)) fun s11 => (f_Logs_pick_b47 F n s11 l3 l4 (l5 + 1))))))))))))
def f_Logs_pick (F : Nat) (s : St) (p1 : Int32) (p2 : Int32) (p3 : Int32) : Option (St) :=
  lt (sI s 201 0) fun s1 => ((f_P_isRange F s1 p1 p2 0 1000).bind fun x2 => (if x2.1 = 0 then
    (some x2.2)
  else
    ((ix 1002 (p2 + 1)).bind fun j3 => (lt ((if (gI x2.2 200) < (gA x2.2 10 j3) then (gI x2.2 200) else (gA x2.2 10 j3)) : Int32) fun x4 => ((ix 1002 p1).bind fun j5 => (f_Logs_pick_b47 F F x2.2 p3 x4 (if (0 : Int32) < (gA x2.2 10 j5) then (gA x2.2 10 j5) else 0)))))))
set_option maxHeartbeats 1000000 in
theorem c_f_Logs_pick_b47 {F : Nat} {Γ : Ga} {D : DD} {B : Nat} {s' : St} (X : Cx Γ RX2 cX2_pick 7 D B { frames := 2, cells := 0, slots := 0, locals := 45 }) (hr : (Gme Γ).sig.returnType = none) : ∀ (n : Nat) {s : St} {l3 : Int32} {l4 : Int32} {l5 : Int32}, f_Logs_pick_b47 F n s l3 l4 l5 = some s' → V Γ D B true 7 (QM Γ D B true s' none 0 0) 0 0 s 47 [(0, .ref (B + 3)), (3, .int l3), (4, .int l4), (5, .int l5)] [] := by
  intro n
  induction n with
  | zero => intro s l3 l4 l5 hf; rw [f_Logs_pick_b47] at hf; cases hf
  | succ n ih =>
    intro s l3 l4 l5 hf
    rw [f_Logs_pick_b47] at hf
    refine r_iload (pc := 47) X dX2_pick_47 3 rfl ?_
    refine r_iload (pc := 49) X dX2_pick_49 2 rfl ?_
    refine b_icmp_ge (tgt := 131) (pc := 51) X dX2_pick_51 (by decide) hf (fun hf => ?_) (fun hf => ?_)
    · exact e_vret (pc := 131) X hr hf (Nat.le_refl _) (Nat.le_refl _) dX2_pick_131
    · refine r_iload (pc := 54) X dX2_pick_54 3 rfl ?_
      refine r_aload_n (x := some 3) (pc := 56) X dX2_pick_56 0 rfl ?_
      refine r_get (j := 5) (pc := 57) X ce_3 rfl inT2 (by decide) w_77 rfl dX2_pick_57 ?_
      refine r_alen (t0 := 1) (v := 100) (pc := 60) X ce_9 rfl (by decide) dX2_pick_60 ?_
      refine b_icmp_ge (tgt := 131) (pc := 61) X dX2_pick_61 (by decide) hf (fun hf => ?_) (fun hf => ?_)
      · exact e_vret (pc := 131) X hr hf (Nat.le_refl _) (Nat.le_refl _) dX2_pick_131
      · refine r_aload_n (x := some 3) (pc := 64) X dX2_pick_64 0 rfl ?_
        refine r_get (j := 5) (pc := 65) X ce_3 rfl inT2 (by decide) w_77 rfl dX2_pick_65 ?_
        refine r_iload (pc := 68) X dX2_pick_68 3 rfl ?_
        refine b_iald (pc := 70) X ce_9 dX2_pick_70 hf (fun j6 hf => ?_)
        refine r_istore (pc := 71) (lv' := [(0, .ref (B + 3)), (3, .int l3), (4, .int l4), (5, .int l5), (6, .int (gA s 9 j6))]) X dX2_pick_71 (by decide) [1, 2, 3, 4, 0] rfl ?_
        refine r_iload (pc := 73) X dX2_pick_73 4 rfl ?_
        refine r_iconst (v := 0) (pc := 75) X dX2_pick_75 (by decide) ?_
        refine r_bipush (v := 99) (pc := 76) X dX2_pick_76 (by decide) ?_
        refine bnd hf (fun x7 h7 hf => ?_)
        refine r_callSNi (As := [.int (gA s 9 j6), .int 0, .int 99]) (st := []) (pc := 78) X (c_f_P_isIn h7) rfl wn_543 w_342 w_36 w_343 hdS_X10_isIn (by decide) (by decide) (by decide) (Nat.le_of_ble_eq_true rfl) dX2_pick_78 rfl ?_
        refine b_if_eq (tgt := 125) (pc := 81) X dX2_pick_81 (by decide) hf (fun hf => ?_) (fun hf => ?_)
        · refine r_iinc (v := l5 + 1) (lv' := [(0, .ref (B + 3)), (3, .int l3), (4, .int l4), (5, .int (l5 + 1))]) (pc := 125) X dX2_pick_125 3 rfl rfl (by decide) [1, 2, 3, 0] rfl ?_
          refine r_goto (tgt := 47) (pc := 128) X dX2_pick_128 (by decide) ?_
          exact ih hf
        · refine r_aload_n (x := some 3) (pc := 84) X dX2_pick_84 0 rfl ?_
          refine r_get (j := 4) (pc := 85) X ce_3 rfl inT2 (by decide) w_76 rfl dX2_pick_85 ?_
          refine r_iload (pc := 88) X dX2_pick_88 4 rfl ?_
          refine b_iald (pc := 90) X ce_8 dX2_pick_90 hf (fun j8 hf => ?_)
          refine r_iload_n (pc := 91) X dX2_pick_91 1 rfl ?_
          refine b_icmp_gt (tgt := 125) (pc := 92) X dX2_pick_92 (by decide) hf (fun hf => ?_) (fun hf => ?_)
          · refine r_iinc (v := l5 + 1) (lv' := [(0, .ref (B + 3)), (3, .int l3), (4, .int l4), (5, .int (l5 + 1))]) (pc := 125) X dX2_pick_125 3 rfl rfl (by decide) [1, 2, 3, 0] rfl ?_
            refine r_goto (tgt := 47) (pc := 128) X dX2_pick_128 (by decide) ?_
            exact ih hf
          · refine r_aload_n (x := some 3) (pc := 95) X dX2_pick_95 0 rfl ?_
            refine r_get (j := 9) (pc := 96) X ce_3 rfl inT2 (by decide) w_84 rfl dX2_pick_96 ?_
            refine r_bipush (v := 100) (pc := 99) X dX2_pick_99 (by decide) ?_
            refine b_icmp_ge (tgt := 125) (pc := 101) X dX2_pick_101 (by decide) hf (fun hf => ?_) (fun hf => ?_)
            · refine r_iinc (v := l5 + 1) (lv' := [(0, .ref (B + 3)), (3, .int l3), (4, .int l4), (5, .int (l5 + 1))]) (pc := 125) X dX2_pick_125 3 rfl rfl (by decide) [1, 2, 3, 0] rfl ?_
              refine r_goto (tgt := 47) (pc := 128) X dX2_pick_128 (by decide) ?_
              exact ih hf
            · refine r_aload_n (x := some 3) (pc := 104) X dX2_pick_104 0 rfl ?_
              refine r_get (j := 7) (pc := 105) X ce_3 rfl inT2 (by decide) w_79 rfl dX2_pick_105 ?_
              refine r_aload_n (x := some 3) (pc := 108) X dX2_pick_108 0 rfl ?_
              refine r_get (j := 9) (pc := 109) X ce_3 rfl inT2 (by decide) w_84 rfl dX2_pick_109 ?_
              refine r_iload (pc := 112) X dX2_pick_112 4 rfl ?_
              refine b_iast (pc := 114) X ce_11 (fun _ => ca_11 _ _) dX2_pick_114 hf (fun j9 s10 hf => ?_)
              refine r_aload_n (x := some 3) (pc := 115) X dX2_pick_115 0 rfl ?_
              refine r_dup (pc := 116) X dX2_pick_116 rfl ?_
              refine r_get (j := 9) (pc := 117) X ce_3 rfl inT2 (by decide) w_84 rfl dX2_pick_117 ?_
              refine r_iconst (v := 1) (pc := 120) X dX2_pick_120 (by decide) ?_
              refine r_iadd (pc := 121) X dX2_pick_121 ?_
              refine b_put (j := 9) (pc := 122) X ce_3 rfl inT2 tyX2 tyX2_ok nmX2 (by decide) w_84 rfl (tyX2_ok 9 (by decide)) rfl rfl (Nat.le_of_ble_eq_true rfl) (cp_201 _) rfl rfl dX2_pick_122 hf (fun s11 hf => ?_)
              refine r_iinc (v := l5 + 1) (lv' := [(0, .ref (B + 3)), (3, .int l3), (4, .int l4), (5, .int (l5 + 1))]) (pc := 125) X dX2_pick_125 3 rfl rfl (by decide) [1, 2, 3, 0] rfl ?_
              refine r_goto (tgt := 47) (pc := 128) X dX2_pick_128 (by decide) ?_
              exact ih hf
set_option maxHeartbeats 1000000 in
theorem c_f_Logs_pick {F : Nat} {s : St} {p1 : Int32} {p2 : Int32} {p3 : Int32} {s' : St} (hf : f_Logs_pick F s p1 p2 p3 = some s') : CC true yX2_pick (Cond.code yX2_pick cX2_pick 7 none) 2 45 (fun B => [.ref (B + 3), .int p1, .int p2, .int p3]) s (fun B => none) s' 0 0 := by
  refine CC.of (fun B => [(0, .ref (B + 3)), (1, .int p1), (2, .int p2), (3, .int p3)]) (by decide +kernel) (fun _ => rfl) (fun _ => (by simp [lg_sl, rfB_cat, catI, catL, catR])) (fun Γ D B X hr hin => ?_)
  have X : Cx Γ RX2 cX2_pick 7 D B { frames := 2, cells := 0, slots := 0, locals := 45 } := X
  unfold f_Logs_pick at hf
  refine r_aload_n (x := some 3) (pc := 0) X dX2_pick_0 0 rfl ?_
  refine r_iconst (v := 0) (pc := 1) X dX2_pick_1 (by decide) ?_
  refine b_put (j := 9) (pc := 2) X ce_3 rfl inT2 tyX2 tyX2_ok nmX2 (by decide) w_84 rfl (tyX2_ok 9 (by decide)) rfl rfl (Nat.le_of_ble_eq_true rfl) (cp_201 _) rfl rfl dX2_pick_2 hf (fun s1 hf => ?_)
  refine r_iload_n (pc := 5) X dX2_pick_5 1 rfl ?_
  refine r_iload_n (pc := 6) X dX2_pick_6 2 rfl ?_
  refine r_iconst (v := 0) (pc := 7) X dX2_pick_7 (by decide) ?_
  refine r_sipush (v := 1000) (pc := 8) X dX2_pick_8 (by decide) ?_
  refine bnd hf (fun x2 h2 hf => ?_)
  refine r_callSNi (As := [.int p1, .int p2, .int 0, .int 1000]) (st := []) (pc := 11) X (c_f_P_isRange h2) rfl wn_536 w_537 w_36 w_538 hdS_X10_isRange (by decide) (by decide) (by decide) (Nat.le_of_ble_eq_true rfl) dX2_pick_11 rfl ?_
  refine b_if_ne (tgt := 18) (pc := 14) X dX2_pick_14 (by decide) hf (fun hf => ?_) (fun hf => ?_)
  · exact e_vret (pc := 17) X hr hf (Nat.le_refl _) (Nat.le_refl _) dX2_pick_17
  · refine r_aload_n (x := some 3) (pc := 18) X dX2_pick_18 0 rfl ?_
    refine r_get (j := 6) (pc := 19) X ce_3 rfl inT2 (by decide) w_78 rfl dX2_pick_19 ?_
    refine r_iload_n (pc := 22) X dX2_pick_22 2 rfl ?_
    refine r_iconst (v := 1) (pc := 23) X dX2_pick_23 (by decide) ?_
    refine r_iadd (pc := 24) X dX2_pick_24 ?_
    refine b_iald (pc := 25) X ce_10 dX2_pick_25 hf (fun j3 hf => ?_)
    refine r_aload_n (x := some 3) (pc := 26) X dX2_pick_26 0 rfl ?_
    refine r_get (j := 8) (pc := 27) X ce_3 rfl inT2 (by decide) w_82 rfl dX2_pick_27 ?_
    refine r_min (pc := 30) X w_539 w_540 w_51 w_mincode ⟨Nat.le_of_ble_eq_true rfl, Nat.le_of_ble_eq_true rfl⟩ (by decide) (by decide) dX2_pick_30 ?_
    refine topi hf (fun x4 hf => ?_)
    refine r_istore (pc := 33) (lv' := [(0, .ref (B + 3)), (1, .int p1), (3, .int p3), (4, .int x4)]) X dX2_pick_33 (by decide) [1, 2, 4, 0] rfl ?_
    refine r_iconst (v := 0) (pc := 35) X dX2_pick_35 (by decide) ?_
    refine r_aload_n (x := some 3) (pc := 36) X dX2_pick_36 0 rfl ?_
    refine r_get (j := 6) (pc := 37) X ce_3 rfl inT2 (by decide) w_78 rfl dX2_pick_37 ?_
    refine r_iload_n (pc := 40) X dX2_pick_40 1 rfl ?_
    refine b_iald (pc := 41) X ce_10 dX2_pick_41 hf (fun j5 hf => ?_)
    refine r_max (pc := 42) X w_542 w_508 w_51 w_maxcode ⟨Nat.le_of_ble_eq_true rfl, Nat.le_of_ble_eq_true rfl⟩ (by decide) (by decide) dX2_pick_42 ?_
    refine r_istore (pc := 45) (lv' := [(0, .ref (B + 3)), (3, .int p3), (4, .int x4), (5, .int (if (0 : Int32) < (gA x2.2 10 j5) then (gA x2.2 10 j5) else 0))]) X dX2_pick_45 (by decide) [1, 3, 4, 0] rfl ?_
    exact c_f_Logs_pick_b47 X hr _ hf
/-! f_P_pickWindow -/
theorem dX10_pickWindow_0 : decode cX10_pickWindow 0 = .ok (.aload_n 0, 1) := by decide +kernel
theorem dX10_pickWindow_1 : decode cX10_pickWindow 1 = .ok (.getfield 32, 3) := by decide +kernel
theorem dX10_pickWindow_4 : decode cX10_pickWindow 4 = .ok (.iconst 0, 1) := by decide +kernel
theorem dX10_pickWindow_5 : decode cX10_pickWindow 5 = .ok (.iload_n 2, 1) := by decide +kernel
theorem dX10_pickWindow_6 : decode cX10_pickWindow 6 = .ok (.aload_n 1, 1) := by decide +kernel
theorem dX10_pickWindow_7 : decode cX10_pickWindow 7 = .ok (.getfield 317, 3) := by decide +kernel
theorem dX10_pickWindow_10 : decode cX10_pickWindow 10 = .ok (.isub, 1) := by decide +kernel
theorem dX10_pickWindow_11 : decode cX10_pickWindow 11 = .ok (.iconst 1, 1) := by decide +kernel
theorem dX10_pickWindow_12 : decode cX10_pickWindow 12 = .ok (.iadd, 1) := by decide +kernel
theorem dX10_pickWindow_13 : decode cX10_pickWindow 13 = .ok (.invokestatic 320, 3) := by decide +kernel
theorem dX10_pickWindow_16 : decode cX10_pickWindow 16 = .ok (.iload_n 2, 1) := by decide +kernel
theorem dX10_pickWindow_17 : decode cX10_pickWindow 17 = .ok (.iload_n 3, 1) := by decide +kernel
theorem dX10_pickWindow_18 : decode cX10_pickWindow 18 = .ok (.invokevirtual 106, 3) := by decide +kernel
theorem dX10_pickWindow_21 : decode cX10_pickWindow 21 = .ok (.return_, 1) := by decide +kernel
def f_P_pickWindow (F : Nat) (s : St) (p1 : Option Nat) (p2 : Int32) (p3 : Int32) : Option (St) :=
  (dgo s p1 6).bind fun o1 => ((f_Logs_pick F s (if (0 : Int32) < ((p2 - (o1.2.1 2)) + 1) then ((p2 - (o1.2.1 2)) + 1) else 0) p2 p3).bind fun x2 => (some x2))
set_option maxHeartbeats 1000000 in
theorem c_f_P_pickWindow {F : Nat} {s : St} {p1 : Option Nat} {p2 : Int32} {p3 : Int32} {s' : St} (hf : f_P_pickWindow F s p1 p2 p3 = some s') : CC true yX10_pickWindow (Cond.code yX10_pickWindow cX10_pickWindow 4 none) 3 71 (fun B => [.ref (B + 0), rfB B p1, .int p2, .int p3]) s (fun B => none) s' 0 0 := by
  refine CC.of (fun B => [(0, .ref (B + 0)), (1, rfB B p1), (2, .int p2), (3, .int p3)]) (by decide +kernel) (fun _ => (by simp [lv_args, rfB_cat, catI, catL, catR])) (fun _ => (by simp [lg_sl, rfB_cat, catI, catL, catR])) (fun Γ D B X hr hin => ?_)
  have X : Cx Γ RX10 cX10_pickWindow 4 D B { frames := 3, cells := 0, slots := 0, locals := 71 } := X
  unfold f_P_pickWindow at hf
  refine r_aload_n (x := some 0) (pc := 0) X dX10_pickWindow_0 0 rfl ?_
  refine r_get (j := 5) (pc := 1) X ce_0 rfl inT10 (by decide) w_285 rfl dX10_pickWindow_1 ?_
  refine r_iconst (v := 0) (pc := 4) X dX10_pickWindow_4 (by decide) ?_
  refine r_iload_n (pc := 5) X dX10_pickWindow_5 2 rfl ?_
  refine r_aload_n (pc := 6) X dX10_pickWindow_6 1 rfl ?_
  refine b_dgetI (j := 2) (pc := 7) X rfl inT6 (by decide) w_721 rfl dX10_pickWindow_7 hf (fun o1 hf => ?_)
  refine r_isub (pc := 10) X dX10_pickWindow_10 ?_
  refine r_iconst (v := 1) (pc := 11) X dX10_pickWindow_11 (by decide) ?_
  refine r_iadd (pc := 12) X dX10_pickWindow_12 ?_
  refine r_max (pc := 13) X w_531 w_508 w_51 w_maxcode ⟨Nat.le_of_ble_eq_true rfl, Nat.le_of_ble_eq_true rfl⟩ (by decide) (by decide) dX10_pickWindow_13 ?_
  refine r_iload_n (pc := 16) X dX10_pickWindow_16 2 rfl ?_
  refine r_iload_n (pc := 17) X dX10_pickWindow_17 3 rfl ?_
  refine bnd hf (fun x2 h2 hf => ?_)
  refine r_callVv (As := [.int (if (0 : Int32) < ((p2 - (o1.2.1 2)) + 1) then ((p2 - (o1.2.1 2)) + 1) else 0), .int p2, .int p3]) (st := []) (pc := 18) X (c_f_Logs_pick h2) rfl w_532 w_533 w_534 w_37 w_535 hdV_X2_pick (Rc.s rfl ce_3) (by decide) (by decide) (by decide) (Nat.le_of_ble_eq_true rfl) dX10_pickWindow_18 rfl ?_
  exact e_vret (pc := 21) X hr hf (Nat.le_refl _) (Nat.le_refl _) dX10_pickWindow_21
/-! f_P_isField -/
theorem dX10_isField_0 : decode cX10_isField 0 = .ok (.iload_n 0, 1) := by decide +kernel
theorem dX10_isField_1 : decode cX10_isField 1 = .ok (.bipush 112, 2) := by decide +kernel
theorem dX10_isField_3 : decode cX10_isField 3 = .ok (.if_icmp .eq 21, 3) := by decide +kernel
theorem dX10_isField_6 : decode cX10_isField 6 = .ok (.iload_n 0, 1) := by decide +kernel
theorem dX10_isField_7 : decode cX10_isField 7 = .ok (.bipush 108, 2) := by decide +kernel
theorem dX10_isField_9 : decode cX10_isField 9 = .ok (.if_icmp .eq 15, 3) := by decide +kernel
theorem dX10_isField_12 : decode cX10_isField 12 = .ok (.iload_n 0, 1) := by decide +kernel
theorem dX10_isField_13 : decode cX10_isField 13 = .ok (.bipush 118, 2) := by decide +kernel
theorem dX10_isField_15 : decode cX10_isField 15 = .ok (.if_icmp .eq 9, 3) := by decide +kernel
theorem dX10_isField_18 : decode cX10_isField 18 = .ok (.iload_n 0, 1) := by decide +kernel
theorem dX10_isField_19 : decode cX10_isField 19 = .ok (.bipush 104, 2) := by decide +kernel
theorem dX10_isField_21 : decode cX10_isField 21 = .ok (.if_icmp .ne 7, 3) := by decide +kernel
theorem dX10_isField_24 : decode cX10_isField 24 = .ok (.iconst 1, 1) := by decide +kernel
theorem dX10_isField_25 : decode cX10_isField 25 = .ok (.goto 4, 3) := by decide +kernel
theorem dX10_isField_28 : decode cX10_isField 28 = .ok (.iconst 0, 1) := by decide +kernel
theorem dX10_isField_29 : decode cX10_isField 29 = .ok (.ireturn, 1) := by decide +kernel
def f_P_isField (F : Nat) (s : St) (p0 : Int32) : Option (Int32 × St) :=
  if p0 = 112 then
    (some (1, s))
  else
    (if p0 = 108 then
      (some (1, s))
    else
      (if p0 = 118 then
        (some (1, s))
      else
        (if p0 = 104 then
          (some (1, s))
        else
          (some (0, s)))))
set_option maxHeartbeats 1000000 in
theorem c_f_P_isField {F : Nat} {s : St} {p0 : Int32} {r : Int32} {s' : St} (hf : f_P_isField F s p0 = some (r, s')) : CC true yX10_isField (Cond.code yX10_isField cX10_isField 1 (some .boolean)) 0 0 (fun B => [.int p0]) s (fun B => (some (.int r))) s' 0 0 := by
  refine CC.of (fun B => [(0, .int p0)]) (by decide +kernel) (fun _ => rfl) (fun _ => (by simp [lg_sl, rfB_cat, catI, catL, catR])) (fun Γ D B X hr hin => ?_)
  have X : Cx Γ RX10 cX10_isField 1 D B { frames := 0, cells := 0, slots := 0, locals := 0 } := X
  unfold f_P_isField at hf
  refine r_iload_n (pc := 0) X dX10_isField_0 0 rfl ?_
  refine r_bipush (v := 112) (pc := 1) X dX10_isField_1 (by decide) ?_
  refine b_icmp_eq (tgt := 24) (pc := 3) X dX10_isField_3 (by decide) hf (fun hf => ?_) (fun hf => ?_)
  · refine r_iconst (v := 1) (pc := 24) X dX10_isField_24 (by decide) ?_
    refine r_goto (tgt := 29) (pc := 25) X dX10_isField_25 (by decide) ?_
    exact e_zret (pc := 29) X hr (by decide) hf (Nat.le_refl _) (Nat.le_refl _) dX10_isField_29
  · refine r_iload_n (pc := 6) X dX10_isField_6 0 rfl ?_
    refine r_bipush (v := 108) (pc := 7) X dX10_isField_7 (by decide) ?_
    refine b_icmp_eq (tgt := 24) (pc := 9) X dX10_isField_9 (by decide) hf (fun hf => ?_) (fun hf => ?_)
    · refine r_iconst (v := 1) (pc := 24) X dX10_isField_24 (by decide) ?_
      refine r_goto (tgt := 29) (pc := 25) X dX10_isField_25 (by decide) ?_
      exact e_zret (pc := 29) X hr (by decide) hf (Nat.le_refl _) (Nat.le_refl _) dX10_isField_29
    · refine r_iload_n (pc := 12) X dX10_isField_12 0 rfl ?_
      refine r_bipush (v := 118) (pc := 13) X dX10_isField_13 (by decide) ?_
      refine b_icmp_eq (tgt := 24) (pc := 15) X dX10_isField_15 (by decide) hf (fun hf => ?_) (fun hf => ?_)
      · refine r_iconst (v := 1) (pc := 24) X dX10_isField_24 (by decide) ?_
        refine r_goto (tgt := 29) (pc := 25) X dX10_isField_25 (by decide) ?_
        exact e_zret (pc := 29) X hr (by decide) hf (Nat.le_refl _) (Nat.le_refl _) dX10_isField_29
      · refine r_iload_n (pc := 18) X dX10_isField_18 0 rfl ?_
        refine r_bipush (v := 104) (pc := 19) X dX10_isField_19 (by decide) ?_
        refine b_icmp_ne (tgt := 28) (pc := 21) X dX10_isField_21 (by decide) hf (fun hf => ?_) (fun hf => ?_)
        · refine r_iconst (v := 1) (pc := 24) X dX10_isField_24 (by decide) ?_
          refine r_goto (tgt := 29) (pc := 25) X dX10_isField_25 (by decide) ?_
          exact e_zret (pc := 29) X hr (by decide) hf (Nat.le_refl _) (Nat.le_refl _) dX10_isField_29
        · refine r_iconst (v := 0) (pc := 28) X dX10_isField_28 (by decide) ?_
          exact e_zret (pc := 29) X hr (by decide) hf (Nat.le_refl _) (Nat.le_refl _) dX10_isField_29
/-! f_P_isAggregate -/
theorem dX10_isAggregate_0 : decode cX10_isAggregate 0 = .ok (.iload_n 0, 1) := by decide +kernel
theorem dX10_isAggregate_1 : decode cX10_isAggregate 1 = .ok (.lookupswitch 61 #[(100, 59), (109, 59), (110, 59), (115, 59), (116, 59), (120, 59)], 59) := by decide +kernel
theorem dX10_isAggregate_60 : decode cX10_isAggregate 60 = .ok (.iconst 1, 1) := by decide +kernel
theorem dX10_isAggregate_61 : decode cX10_isAggregate 61 = .ok (.ireturn, 1) := by decide +kernel
theorem dX10_isAggregate_62 : decode cX10_isAggregate 62 = .ok (.iconst 0, 1) := by decide +kernel
theorem dX10_isAggregate_63 : decode cX10_isAggregate 63 = .ok (.ireturn, 1) := by decide +kernel
def f_P_isAggregate (F : Nat) (s : St) (p0 : Int32) : Option (Int32 × St) :=
  if p0 = 100 then
    (some (1, s))
  else if p0 = 109 then
    (some (1, s))
  else if p0 = 110 then
    (some (1, s))
  else if p0 = 115 then
    (some (1, s))
  else if p0 = 116 then
    (some (1, s))
  else if p0 = 120 then
    (some (1, s))
  else 
    (some (0, s))
set_option maxHeartbeats 1000000 in
theorem c_f_P_isAggregate {F : Nat} {s : St} {p0 : Int32} {r : Int32} {s' : St} (hf : f_P_isAggregate F s p0 = some (r, s')) : CC true yX10_isAggregate (Cond.code yX10_isAggregate cX10_isAggregate 1 (some .boolean)) 0 0 (fun B => [.int p0]) s (fun B => (some (.int r))) s' 0 0 := by
  refine CC.of (fun B => [(0, .int p0)]) (by decide +kernel) (fun _ => rfl) (fun _ => (by simp [lg_sl, rfB_cat, catI, catL, catR])) (fun Γ D B X hr hin => ?_)
  have X : Cx Γ RX10 cX10_isAggregate 1 D B { frames := 0, cells := 0, slots := 0, locals := 0 } := X
  unfold f_P_isAggregate at hf
  refine r_iload_n (pc := 0) X dX10_isAggregate_0 0 rfl ?_
  refine sw hf (fun e0 hf => ?_) (fun e0 hf => ?_)
  · refine r_lookup (tgt := 60) (pc := 1) X dX10_isAggregate_1 (by decide) (by rw [e0] <;> rfl) (by decide) ?_
    refine r_iconst (v := 1) (pc := 60) X dX10_isAggregate_60 (by decide) ?_
    exact e_zret (pc := 61) X hr (by decide) hf (Nat.le_refl _) (Nat.le_refl _) dX10_isAggregate_61
  refine sw hf (fun e1 hf => ?_) (fun e1 hf => ?_)
  · refine r_lookup (tgt := 60) (pc := 1) X dX10_isAggregate_1 (by decide) (by rw [e1] <;> rfl) (by decide) ?_
    refine r_iconst (v := 1) (pc := 60) X dX10_isAggregate_60 (by decide) ?_
    exact e_zret (pc := 61) X hr (by decide) hf (Nat.le_refl _) (Nat.le_refl _) dX10_isAggregate_61
  refine sw hf (fun e2 hf => ?_) (fun e2 hf => ?_)
  · refine r_lookup (tgt := 60) (pc := 1) X dX10_isAggregate_1 (by decide) (by rw [e2] <;> rfl) (by decide) ?_
    refine r_iconst (v := 1) (pc := 60) X dX10_isAggregate_60 (by decide) ?_
    exact e_zret (pc := 61) X hr (by decide) hf (Nat.le_refl _) (Nat.le_refl _) dX10_isAggregate_61
  refine sw hf (fun e3 hf => ?_) (fun e3 hf => ?_)
  · refine r_lookup (tgt := 60) (pc := 1) X dX10_isAggregate_1 (by decide) (by rw [e3] <;> rfl) (by decide) ?_
    refine r_iconst (v := 1) (pc := 60) X dX10_isAggregate_60 (by decide) ?_
    exact e_zret (pc := 61) X hr (by decide) hf (Nat.le_refl _) (Nat.le_refl _) dX10_isAggregate_61
  refine sw hf (fun e4 hf => ?_) (fun e4 hf => ?_)
  · refine r_lookup (tgt := 60) (pc := 1) X dX10_isAggregate_1 (by decide) (by rw [e4] <;> rfl) (by decide) ?_
    refine r_iconst (v := 1) (pc := 60) X dX10_isAggregate_60 (by decide) ?_
    exact e_zret (pc := 61) X hr (by decide) hf (Nat.le_refl _) (Nat.le_refl _) dX10_isAggregate_61
  refine sw hf (fun e5 hf => ?_) (fun e5 hf => ?_)
  · refine r_lookup (tgt := 60) (pc := 1) X dX10_isAggregate_1 (by decide) (by rw [e5] <;> rfl) (by decide) ?_
    refine r_iconst (v := 1) (pc := 60) X dX10_isAggregate_60 (by decide) ?_
    exact e_zret (pc := 61) X hr (by decide) hf (Nat.le_refl _) (Nat.le_refl _) dX10_isAggregate_61
  · refine r_lookup (off := 61) (tgt := 62) (pc := 1) X dX10_isAggregate_1 (by decide) ((lv_osw e0 (by decide)).trans ((lv_osw e1 (by decide)).trans ((lv_osw e2 (by decide)).trans ((lv_osw e3 (by decide)).trans ((lv_osw e4 (by decide)).trans ((lv_osw e5 (by decide)).trans rfl)))))) (by decide) ?_
    refine r_iconst (v := 0) (pc := 62) X dX10_isAggregate_62 (by decide) ?_
    exact e_zret (pc := 63) X hr (by decide) hf (Nat.le_refl _) (Nat.le_refl _) dX10_isAggregate_63
/-! f_Rota_addDebt -/
theorem dX5_addDebt_0 : decode cX5_addDebt 0 = .ok (.aload_n 0, 1) := by decide +kernel
theorem dX5_addDebt_1 : decode cX5_addDebt 1 = .ok (.getfield 31, 3) := by decide +kernel
theorem dX5_addDebt_4 : decode cX5_addDebt 4 = .ok (.iconst 0, 1) := by decide +kernel
theorem dX5_addDebt_5 : decode cX5_addDebt 5 = .ok (.aload_n 0, 1) := by decide +kernel
theorem dX5_addDebt_6 : decode cX5_addDebt 6 = .ok (.getfield 25, 3) := by decide +kernel
theorem dX5_addDebt_9 : decode cX5_addDebt 9 = .ok (.arraylength, 1) := by decide +kernel
theorem dX5_addDebt_10 : decode cX5_addDebt 10 = .ok (.iconst 1, 1) := by decide +kernel
theorem dX5_addDebt_11 : decode cX5_addDebt 11 = .ok (.isub, 1) := by decide +kernel
theorem dX5_addDebt_12 : decode cX5_addDebt 12 = .ok (.invokestatic 40, 3) := by decide +kernel
theorem dX5_addDebt_15 : decode cX5_addDebt 15 = .ok (.ifCond .eq 33, 3) := by decide +kernel
theorem dX5_addDebt_18 : decode cX5_addDebt 18 = .ok (.aload_n 0, 1) := by decide +kernel
theorem dX5_addDebt_19 : decode cX5_addDebt 19 = .ok (.getfield 25, 3) := by decide +kernel
theorem dX5_addDebt_22 : decode cX5_addDebt 22 = .ok (.aload_n 0, 1) := by decide +kernel
theorem dX5_addDebt_23 : decode cX5_addDebt 23 = .ok (.getfield 31, 3) := by decide +kernel
theorem dX5_addDebt_26 : decode cX5_addDebt 26 = .ok (.iload_n 1, 1) := by decide +kernel
theorem dX5_addDebt_27 : decode cX5_addDebt 27 = .ok (.iastore, 1) := by decide +kernel
theorem dX5_addDebt_28 : decode cX5_addDebt 28 = .ok (.aload_n 0, 1) := by decide +kernel
theorem dX5_addDebt_29 : decode cX5_addDebt 29 = .ok (.getfield 28, 3) := by decide +kernel
theorem dX5_addDebt_32 : decode cX5_addDebt 32 = .ok (.aload_n 0, 1) := by decide +kernel
theorem dX5_addDebt_33 : decode cX5_addDebt 33 = .ok (.getfield 31, 3) := by decide +kernel
theorem dX5_addDebt_36 : decode cX5_addDebt 36 = .ok (.iload_n 2, 1) := by decide +kernel
theorem dX5_addDebt_37 : decode cX5_addDebt 37 = .ok (.iastore, 1) := by decide +kernel
theorem dX5_addDebt_38 : decode cX5_addDebt 38 = .ok (.aload_n 0, 1) := by decide +kernel
theorem dX5_addDebt_39 : decode cX5_addDebt 39 = .ok (.dup, 1) := by decide +kernel
theorem dX5_addDebt_40 : decode cX5_addDebt 40 = .ok (.getfield 31, 3) := by decide +kernel
theorem dX5_addDebt_43 : decode cX5_addDebt 43 = .ok (.iconst 1, 1) := by decide +kernel
theorem dX5_addDebt_44 : decode cX5_addDebt 44 = .ok (.iadd, 1) := by decide +kernel
theorem dX5_addDebt_45 : decode cX5_addDebt 45 = .ok (.putfield 31, 3) := by decide +kernel
theorem dX5_addDebt_48 : decode cX5_addDebt 48 = .ok (.return_, 1) := by decide +kernel
def f_Rota_addDebt (F : Nat) (s : St) (p1 : Int32) (p2 : Int32) : Option (St) :=
  (f_P_isIn F s (gI s 774) 0 ((4000 : Int32) - 1)).bind fun x1 => (if x1.1 = 0 then
    (some x1.2)
  else
    ((ix 4000 (gI x1.2 774)).bind fun j2 => (lt (sA x1.2 16 j2 p1) fun s3 => ((ix 4000 (gI s3 774)).bind fun j4 => (lt (sA s3 17 j4 p2) fun s5 => (lt (sI s5 774 ((gI s5 774) + 1)) fun s6 => (some s6)))))))
set_option maxHeartbeats 1000000 in
theorem c_f_Rota_addDebt {F : Nat} {s : St} {p1 : Int32} {p2 : Int32} {s' : St} (hf : f_Rota_addDebt F s p1 p2 = some s') : CC true yX5_addDebt (Cond.code yX5_addDebt cX5_addDebt 3 none) 1 22 (fun B => [.ref (B + 12), .int p1, .int p2]) s (fun B => none) s' 0 0 := by
  refine CC.of (fun B => [(0, .ref (B + 12)), (1, .int p1), (2, .int p2)]) (by decide +kernel) (fun _ => rfl) (fun _ => (by simp [lg_sl, rfB_cat, catI, catL, catR])) (fun Γ D B X hr hin => ?_)
  have X : Cx Γ RX5 cX5_addDebt 3 D B { frames := 1, cells := 0, slots := 0, locals := 22 } := X
  unfold f_Rota_addDebt at hf
  refine r_aload_n (x := some 12) (pc := 0) X dX5_addDebt_0 0 rfl ?_
  refine r_get (j := 6) (pc := 1) X ce_12 rfl inT5 (by decide) w_127 rfl dX5_addDebt_1 ?_
  refine r_iconst (v := 0) (pc := 4) X dX5_addDebt_4 (by decide) ?_
  refine r_aload_n (x := some 12) (pc := 5) X dX5_addDebt_5 0 rfl ?_
  refine r_get (j := 4) (pc := 6) X ce_12 rfl inT5 (by decide) w_125 rfl dX5_addDebt_6 ?_
  refine r_alen (t0 := 1) (v := 4000) (pc := 9) X ce_16 rfl (by decide) dX5_addDebt_9 ?_
  refine r_iconst (v := 1) (pc := 10) X dX5_addDebt_10 (by decide) ?_
  refine r_isub (pc := 11) X dX5_addDebt_11 ?_
  refine bnd hf (fun x1 h1 hf => ?_)
  refine r_callSNi (As := [.int (gI s 774), .int 0, .int ((4000 : Int32) - 1)]) (st := []) (pc := 12) X (c_f_P_isIn h1) rfl wn_341 w_342 w_36 w_343 hdS_X10_isIn (by decide) (by decide) (by decide) (Nat.le_of_ble_eq_true rfl) dX5_addDebt_12 rfl ?_
  refine b_if_eq (tgt := 48) (pc := 15) X dX5_addDebt_15 (by decide) hf (fun hf => ?_) (fun hf => ?_)
  · exact e_vret (pc := 48) X hr hf (Nat.le_refl _) (Nat.le_refl _) dX5_addDebt_48
  · refine r_aload_n (x := some 12) (pc := 18) X dX5_addDebt_18 0 rfl ?_
    refine r_get (j := 4) (pc := 19) X ce_12 rfl inT5 (by decide) w_125 rfl dX5_addDebt_19 ?_
    refine r_aload_n (x := some 12) (pc := 22) X dX5_addDebt_22 0 rfl ?_
    refine r_get (j := 6) (pc := 23) X ce_12 rfl inT5 (by decide) w_127 rfl dX5_addDebt_23 ?_
    refine r_iload_n (pc := 26) X dX5_addDebt_26 1 rfl ?_
    refine b_iast (pc := 27) X ce_16 (fun _ => ca_16 _ _) dX5_addDebt_27 hf (fun j2 s3 hf => ?_)
    refine r_aload_n (x := some 12) (pc := 28) X dX5_addDebt_28 0 rfl ?_
    refine r_get (j := 5) (pc := 29) X ce_12 rfl inT5 (by decide) w_126 rfl dX5_addDebt_29 ?_
    refine r_aload_n (x := some 12) (pc := 32) X dX5_addDebt_32 0 rfl ?_
    refine r_get (j := 6) (pc := 33) X ce_12 rfl inT5 (by decide) w_127 rfl dX5_addDebt_33 ?_
    refine r_iload_n (pc := 36) X dX5_addDebt_36 2 rfl ?_
    refine b_iast (pc := 37) X ce_17 (fun _ => ca_17 _ _) dX5_addDebt_37 hf (fun j4 s5 hf => ?_)
    refine r_aload_n (x := some 12) (pc := 38) X dX5_addDebt_38 0 rfl ?_
    refine r_dup (pc := 39) X dX5_addDebt_39 rfl ?_
    refine r_get (j := 6) (pc := 40) X ce_12 rfl inT5 (by decide) w_127 rfl dX5_addDebt_40 ?_
    refine r_iconst (v := 1) (pc := 43) X dX5_addDebt_43 (by decide) ?_
    refine r_iadd (pc := 44) X dX5_addDebt_44 ?_
    refine b_put (j := 6) (pc := 45) X ce_12 rfl inT5 tyX5 tyX5_ok nmX5 (by decide) w_127 rfl (tyX5_ok 6 (by decide)) rfl rfl (Nat.le_of_ble_eq_true rfl) (cp_774 _) rfl rfl dX5_addDebt_45 hf (fun s6 hf => ?_)
    exact e_vret (pc := 48) X hr hf (Nat.le_refl _) (Nat.le_refl _) dX5_addDebt_48
/-! f_P_oweForAlarm -/
theorem dX10_oweForAlarm_0 : decode cX10_oweForAlarm 0 = .ok (.aload_n 0, 1) := by decide +kernel
theorem dX10_oweForAlarm_1 : decode cX10_oweForAlarm 1 = .ok (.getfield 46, 3) := by decide +kernel
theorem dX10_oweForAlarm_4 : decode cX10_oweForAlarm 4 = .ok (.iload_n 1, 1) := by decide +kernel
theorem dX10_oweForAlarm_5 : decode cX10_oweForAlarm 5 = .ok (.invokevirtual 256, 3) := by decide +kernel
theorem dX10_oweForAlarm_8 : decode cX10_oweForAlarm 8 = .ok (.ifCond .ne 4, 3) := by decide +kernel
theorem dX10_oweForAlarm_11 : decode cX10_oweForAlarm 11 = .ok (.return_, 1) := by decide +kernel
theorem dX10_oweForAlarm_12 : decode cX10_oweForAlarm 12 = .ok (.aload_n 0, 1) := by decide +kernel
theorem dX10_oweForAlarm_13 : decode cX10_oweForAlarm 13 = .ok (.aload_n 0, 1) := by decide +kernel
theorem dX10_oweForAlarm_14 : decode cX10_oweForAlarm 14 = .ok (.getfield 46, 3) := by decide +kernel
theorem dX10_oweForAlarm_17 : decode cX10_oweForAlarm 17 = .ok (.getfield 261, 3) := by decide +kernel
theorem dX10_oweForAlarm_20 : decode cX10_oweForAlarm 20 = .ok (.iload_n 1, 1) := by decide +kernel
theorem dX10_oweForAlarm_21 : decode cX10_oweForAlarm 21 = .ok (.iaload, 1) := by decide +kernel
theorem dX10_oweForAlarm_22 : decode cX10_oweForAlarm 22 = .ok (.invokevirtual 213, 3) := by decide +kernel
theorem dX10_oweForAlarm_25 : decode cX10_oweForAlarm 25 = .ok (.astore_n 2, 1) := by decide +kernel
theorem dX10_oweForAlarm_26 : decode cX10_oweForAlarm 26 = .ok (.aload_n 0, 1) := by decide +kernel
theorem dX10_oweForAlarm_27 : decode cX10_oweForAlarm 27 = .ok (.getfield 46, 3) := by decide +kernel
theorem dX10_oweForAlarm_30 : decode cX10_oweForAlarm 30 = .ok (.getfield 269, 3) := by decide +kernel
theorem dX10_oweForAlarm_33 : decode cX10_oweForAlarm 33 = .ok (.iload_n 1, 1) := by decide +kernel
theorem dX10_oweForAlarm_34 : decode cX10_oweForAlarm 34 = .ok (.iaload, 1) := by decide +kernel
theorem dX10_oweForAlarm_35 : decode cX10_oweForAlarm 35 = .ok (.istore_n 3, 1) := by decide +kernel
theorem dX10_oweForAlarm_36 : decode cX10_oweForAlarm 36 = .ok (.aload_n 2, 1) := by decide +kernel
theorem dX10_oweForAlarm_37 : decode cX10_oweForAlarm 37 = .ok (.ifnull 23, 3) := by decide +kernel
theorem dX10_oweForAlarm_40 : decode cX10_oweForAlarm 40 = .ok (.aload_n 2, 1) := by decide +kernel
theorem dX10_oweForAlarm_41 : decode cX10_oweForAlarm 41 = .ok (.getfield 325, 3) := by decide +kernel
theorem dX10_oweForAlarm_44 : decode cX10_oweForAlarm 44 = .ok (.iload_n 3, 1) := by decide +kernel
theorem dX10_oweForAlarm_45 : decode cX10_oweForAlarm 45 = .ok (.if_icmp .eq 15, 3) := by decide +kernel
theorem dX10_oweForAlarm_48 : decode cX10_oweForAlarm 48 = .ok (.aload_n 0, 1) := by decide +kernel
theorem dX10_oweForAlarm_49 : decode cX10_oweForAlarm 49 = .ok (.getfield 39, 3) := by decide +kernel
theorem dX10_oweForAlarm_52 : decode cX10_oweForAlarm 52 = .ok (.aload_n 2, 1) := by decide +kernel
theorem dX10_oweForAlarm_53 : decode cX10_oweForAlarm 53 = .ok (.getfield 325, 3) := by decide +kernel
theorem dX10_oweForAlarm_56 : decode cX10_oweForAlarm 56 = .ok (.iload_n 3, 1) := by decide +kernel
theorem dX10_oweForAlarm_57 : decode cX10_oweForAlarm 57 = .ok (.invokevirtual 328, 3) := by decide +kernel
theorem dX10_oweForAlarm_60 : decode cX10_oweForAlarm 60 = .ok (.return_, 1) := by decide +kernel
def f_P_oweForAlarm (F : Nat) (s : St) (p1 : Int32) : Option (St) :=
  (f_Alarms_has F s p1).bind fun x1 => (if x1.1 = 0 then
    (some x1.2)
  else
    ((ix 4000 p1).bind fun j2 => ((f_P_ruleAt F x1.2 (gA x1.2 19 j2)).bind fun x3 => ((ix 4000 p1).bind fun j4 => (if x3.1 = none then
      (some x3.2)
    else
      ((dgo x3.2 x3.1 6).bind fun o5 => (if (o5.2.1 1) = (gA x3.2 21 j4) then
        (some x3.2)
      else
        ((dgo x3.2 x3.1 6).bind fun o6 => ((f_Rota_addDebt F x3.2 (o6.2.1 1) (gA x3.2 21 j4)).bind fun x7 => (some x7))))))))))
set_option maxHeartbeats 1000000 in
theorem c_f_P_oweForAlarm {F : Nat} {s : St} {p1 : Int32} {s' : St} (hf : f_P_oweForAlarm F s p1 = some s') : CC true yX10_oweForAlarm (Cond.code yX10_oweForAlarm cX10_oweForAlarm 4 none) 2 44 (fun B => [.ref (B + 0), .int p1]) s (fun B => none) s' 0 0 := by
  refine CC.of (fun B => [(0, .ref (B + 0)), (1, .int p1)]) (by decide +kernel) (fun _ => rfl) (fun _ => (by simp [lg_sl, rfB_cat, catI, catL, catR])) (fun Γ D B X hr hin => ?_)
  have X : Cx Γ RX10 cX10_oweForAlarm 4 D B { frames := 2, cells := 0, slots := 0, locals := 44 } := X
  unfold f_P_oweForAlarm at hf
  refine r_aload_n (x := some 0) (pc := 0) X dX10_oweForAlarm_0 0 rfl ?_
  refine r_get (j := 7) (pc := 1) X ce_0 rfl inT10 (by decide) w_287 rfl dX10_oweForAlarm_1 ?_
  refine r_iload_n (pc := 4) X dX10_oweForAlarm_4 1 rfl ?_
  refine bnd hf (fun x1 h1 hf => ?_)
  refine r_callVi (As := [.int p1]) (st := []) (pc := 5) X (c_f_Alarms_has h1) rfl w_778 w_779 w_780 w_40 w_781 hdV_X0_has (Rc.s rfl ce_18) (by decide) (by decide) (by decide) (Nat.le_of_ble_eq_true rfl) dX10_oweForAlarm_5 rfl ?_
  refine b_if_ne (tgt := 12) (pc := 8) X dX10_oweForAlarm_8 (by decide) hf (fun hf => ?_) (fun hf => ?_)
  · exact e_vret (pc := 11) X hr hf (Nat.le_refl _) (Nat.le_refl _) dX10_oweForAlarm_11
  · refine r_aload_n (x := some 0) (pc := 12) X dX10_oweForAlarm_12 0 rfl ?_
    refine r_aload_n (x := some 0) (pc := 13) X dX10_oweForAlarm_13 0 rfl ?_
    refine r_get (j := 7) (pc := 14) X ce_0 rfl inT10 (by decide) w_287 rfl dX10_oweForAlarm_14 ?_
    refine r_get (j := 0) (pc := 17) X ce_18 rfl inT0 (by decide) w_151 rfl dX10_oweForAlarm_17 ?_
    refine r_iload_n (pc := 20) X dX10_oweForAlarm_20 1 rfl ?_
    refine b_iald (pc := 21) X ce_19 dX10_oweForAlarm_21 hf (fun j2 hf => ?_)
    refine bnd hf (fun x3 h3 hf => ?_)
    refine r_callVq (As := [.int (gA x1.2 19 j2)]) (st := []) (pc := 22) X (c_f_P_ruleAt h3) rfl w_355 w_357 w_2 w_36 w_358 hdV_X10_ruleAt (Rc.s rfl ce_0) (by decide) (by decide) (by decide) (Nat.le_of_ble_eq_true rfl) dX10_oweForAlarm_22 rfl ?_
    refine r_astore_n (pc := 25) (lv' := [(0, .ref (B + 0)), (1, .int p1), (2, rfB B x3.1)]) X dX10_oweForAlarm_25 (by decide) [1, 2, 0] rfl ?_
    refine r_aload_n (x := some 0) (pc := 26) X dX10_oweForAlarm_26 0 rfl ?_
    refine r_get (j := 7) (pc := 27) X ce_0 rfl inT10 (by decide) w_287 rfl dX10_oweForAlarm_27 ?_
    refine r_get (j := 2) (pc := 30) X ce_18 rfl inT0 (by decide) w_155 rfl dX10_oweForAlarm_30 ?_
    refine r_iload_n (pc := 33) X dX10_oweForAlarm_33 1 rfl ?_
    refine b_iald (pc := 34) X ce_21 dX10_oweForAlarm_34 hf (fun j4 hf => ?_)
    refine r_istore_n (pc := 35) (lv' := [(0, .ref (B + 0)), (2, rfB B x3.1), (3, .int (gA x3.2 21 j4))]) X dX10_oweForAlarm_35 (by decide) [1, 3, 0] (by simp [lv_pick, rfB_cat, catI, catL, catR, show ((3 : Fin 4) : Nat) = 3 from rfl]) ?_
    refine r_aload_n (pc := 36) X dX10_oweForAlarm_36 1 rfl ?_
    refine b_ifnull (tgt := 60) (pc := 37) X dX10_oweForAlarm_37 (by decide) hf (fun hf => ?_) (fun hf => ?_)
    · exact e_vret (pc := 60) X hr hf (Nat.le_refl _) (Nat.le_refl _) dX10_oweForAlarm_60
    · refine r_aload_n (pc := 40) X dX10_oweForAlarm_40 1 rfl ?_
      refine b_dgetI (j := 1) (pc := 41) X rfl inT6 (by decide) w_719 rfl dX10_oweForAlarm_41 hf (fun o5 hf => ?_)
      refine r_iload_n (pc := 44) X dX10_oweForAlarm_44 2 rfl ?_
      refine b_icmp_eq (tgt := 60) (pc := 45) X dX10_oweForAlarm_45 (by decide) hf (fun hf => ?_) (fun hf => ?_)
      · exact e_vret (pc := 60) X hr hf (Nat.le_refl _) (Nat.le_refl _) dX10_oweForAlarm_60
      · refine r_aload_n (x := some 0) (pc := 48) X dX10_oweForAlarm_48 0 rfl ?_
        refine r_get (j := 6) (pc := 49) X ce_0 rfl inT10 (by decide) w_286 rfl dX10_oweForAlarm_49 ?_
        refine r_aload_n (pc := 52) X dX10_oweForAlarm_52 1 rfl ?_
        refine b_dgetI (j := 1) (pc := 53) X rfl inT6 (by decide) w_719 rfl dX10_oweForAlarm_53 hf (fun o6 hf => ?_)
        refine r_iload_n (pc := 56) X dX10_oweForAlarm_56 2 rfl ?_
        refine bnd hf (fun x7 h7 hf => ?_)
        refine r_callVv (As := [.int (o6.2.1 1), .int (gA x3.2 21 j4)]) (st := []) (pc := 57) X (c_f_Rota_addDebt h7) rfl w_793 w_794 w_795 w_38 w_796 hdV_X5_addDebt (Rc.s rfl ce_12) (by decide) (by decide) (by decide) (Nat.le_of_ble_eq_true rfl) dX10_oweForAlarm_57 rfl ?_
        exact e_vret (pc := 60) X hr hf (Nat.le_refl _) (Nat.le_refl _) dX10_oweForAlarm_60
/-! f_P_isDigit -/
theorem dX10_isDigit_0 : decode cX10_isDigit 0 = .ok (.iload_n 0, 1) := by decide +kernel
theorem dX10_isDigit_1 : decode cX10_isDigit 1 = .ok (.bipush 48, 2) := by decide +kernel
theorem dX10_isDigit_3 : decode cX10_isDigit 3 = .ok (.if_icmp .lt 13, 3) := by decide +kernel
theorem dX10_isDigit_6 : decode cX10_isDigit 6 = .ok (.iload_n 0, 1) := by decide +kernel
theorem dX10_isDigit_7 : decode cX10_isDigit 7 = .ok (.bipush 57, 2) := by decide +kernel
theorem dX10_isDigit_9 : decode cX10_isDigit 9 = .ok (.if_icmp .gt 7, 3) := by decide +kernel
theorem dX10_isDigit_12 : decode cX10_isDigit 12 = .ok (.iconst 1, 1) := by decide +kernel
theorem dX10_isDigit_13 : decode cX10_isDigit 13 = .ok (.goto 4, 3) := by decide +kernel
theorem dX10_isDigit_16 : decode cX10_isDigit 16 = .ok (.iconst 0, 1) := by decide +kernel
theorem dX10_isDigit_17 : decode cX10_isDigit 17 = .ok (.ireturn, 1) := by decide +kernel
def f_P_isDigit (F : Nat) (s : St) (p0 : Int32) : Option (Int32 × St) :=
  if p0 < 48 then
    (some (0, s))
  else
    (if 57 < p0 then
      (some (0, s))
    else
      (some (1, s)))
set_option maxHeartbeats 1000000 in
theorem c_f_P_isDigit {F : Nat} {s : St} {p0 : Int32} {r : Int32} {s' : St} (hf : f_P_isDigit F s p0 = some (r, s')) : CC true yX10_isDigit (Cond.code yX10_isDigit cX10_isDigit 1 (some .boolean)) 0 0 (fun B => [.int p0]) s (fun B => (some (.int r))) s' 0 0 := by
  refine CC.of (fun B => [(0, .int p0)]) (by decide +kernel) (fun _ => rfl) (fun _ => (by simp [lg_sl, rfB_cat, catI, catL, catR])) (fun Γ D B X hr hin => ?_)
  have X : Cx Γ RX10 cX10_isDigit 1 D B { frames := 0, cells := 0, slots := 0, locals := 0 } := X
  unfold f_P_isDigit at hf
  refine r_iload_n (pc := 0) X dX10_isDigit_0 0 rfl ?_
  refine r_bipush (v := 48) (pc := 1) X dX10_isDigit_1 (by decide) ?_
  refine b_icmp_lt (tgt := 16) (pc := 3) X dX10_isDigit_3 (by decide) hf (fun hf => ?_) (fun hf => ?_)
  · refine r_iconst (v := 0) (pc := 16) X dX10_isDigit_16 (by decide) ?_
    exact e_zret (pc := 17) X hr (by decide) hf (Nat.le_refl _) (Nat.le_refl _) dX10_isDigit_17
  · refine r_iload_n (pc := 6) X dX10_isDigit_6 0 rfl ?_
    refine r_bipush (v := 57) (pc := 7) X dX10_isDigit_7 (by decide) ?_
    refine b_icmp_gt (tgt := 16) (pc := 9) X dX10_isDigit_9 (by decide) hf (fun hf => ?_) (fun hf => ?_)
    · refine r_iconst (v := 0) (pc := 16) X dX10_isDigit_16 (by decide) ?_
      exact e_zret (pc := 17) X hr (by decide) hf (Nat.le_refl _) (Nat.le_refl _) dX10_isDigit_17
    · refine r_iconst (v := 1) (pc := 12) X dX10_isDigit_12 (by decide) ?_
      refine r_goto (tgt := 17) (pc := 13) X dX10_isDigit_13 (by decide) ?_
      exact e_zret (pc := 17) X hr (by decide) hf (Nat.le_refl _) (Nat.le_refl _) dX10_isDigit_17
/-! f_P_isComparison -/
theorem dX10_isComparison_0 : decode cX10_isComparison 0 = .ok (.iload_n 0, 1) := by decide +kernel
theorem dX10_isComparison_1 : decode cX10_isComparison 1 = .ok (.bipush 60, 2) := by decide +kernel
theorem dX10_isComparison_3 : decode cX10_isComparison 3 = .ok (.if_icmp .eq 15, 3) := by decide +kernel
theorem dX10_isComparison_6 : decode cX10_isComparison 6 = .ok (.iload_n 0, 1) := by decide +kernel
theorem dX10_isComparison_7 : decode cX10_isComparison 7 = .ok (.bipush 62, 2) := by decide +kernel
theorem dX10_isComparison_9 : decode cX10_isComparison 9 = .ok (.if_icmp .eq 9, 3) := by decide +kernel
theorem dX10_isComparison_12 : decode cX10_isComparison 12 = .ok (.iload_n 0, 1) := by decide +kernel
theorem dX10_isComparison_13 : decode cX10_isComparison 13 = .ok (.bipush 61, 2) := by decide +kernel
theorem dX10_isComparison_15 : decode cX10_isComparison 15 = .ok (.if_icmp .ne 7, 3) := by decide +kernel
theorem dX10_isComparison_18 : decode cX10_isComparison 18 = .ok (.iconst 1, 1) := by decide +kernel
theorem dX10_isComparison_19 : decode cX10_isComparison 19 = .ok (.goto 4, 3) := by decide +kernel
theorem dX10_isComparison_22 : decode cX10_isComparison 22 = .ok (.iconst 0, 1) := by decide +kernel
theorem dX10_isComparison_23 : decode cX10_isComparison 23 = .ok (.ireturn, 1) := by decide +kernel
def f_P_isComparison (F : Nat) (s : St) (p0 : Int32) : Option (Int32 × St) :=
  if p0 = 60 then
    (some (1, s))
  else
    (if p0 = 62 then
      (some (1, s))
    else
      (if p0 = 61 then
        (some (1, s))
      else
        (some (0, s))))
set_option maxHeartbeats 1000000 in
theorem c_f_P_isComparison {F : Nat} {s : St} {p0 : Int32} {r : Int32} {s' : St} (hf : f_P_isComparison F s p0 = some (r, s')) : CC true yX10_isComparison (Cond.code yX10_isComparison cX10_isComparison 1 (some .boolean)) 0 0 (fun B => [.int p0]) s (fun B => (some (.int r))) s' 0 0 := by
  refine CC.of (fun B => [(0, .int p0)]) (by decide +kernel) (fun _ => rfl) (fun _ => (by simp [lg_sl, rfB_cat, catI, catL, catR])) (fun Γ D B X hr hin => ?_)
  have X : Cx Γ RX10 cX10_isComparison 1 D B { frames := 0, cells := 0, slots := 0, locals := 0 } := X
  unfold f_P_isComparison at hf
  refine r_iload_n (pc := 0) X dX10_isComparison_0 0 rfl ?_
  refine r_bipush (v := 60) (pc := 1) X dX10_isComparison_1 (by decide) ?_
  refine b_icmp_eq (tgt := 18) (pc := 3) X dX10_isComparison_3 (by decide) hf (fun hf => ?_) (fun hf => ?_)
  · refine r_iconst (v := 1) (pc := 18) X dX10_isComparison_18 (by decide) ?_
    refine r_goto (tgt := 23) (pc := 19) X dX10_isComparison_19 (by decide) ?_
    exact e_zret (pc := 23) X hr (by decide) hf (Nat.le_refl _) (Nat.le_refl _) dX10_isComparison_23
  · refine r_iload_n (pc := 6) X dX10_isComparison_6 0 rfl ?_
    refine r_bipush (v := 62) (pc := 7) X dX10_isComparison_7 (by decide) ?_
    refine b_icmp_eq (tgt := 18) (pc := 9) X dX10_isComparison_9 (by decide) hf (fun hf => ?_) (fun hf => ?_)
    · refine r_iconst (v := 1) (pc := 18) X dX10_isComparison_18 (by decide) ?_
      refine r_goto (tgt := 23) (pc := 19) X dX10_isComparison_19 (by decide) ?_
      exact e_zret (pc := 23) X hr (by decide) hf (Nat.le_refl _) (Nat.le_refl _) dX10_isComparison_23
    · refine r_iload_n (pc := 12) X dX10_isComparison_12 0 rfl ?_
      refine r_bipush (v := 61) (pc := 13) X dX10_isComparison_13 (by decide) ?_
      refine b_icmp_ne (tgt := 22) (pc := 15) X dX10_isComparison_15 (by decide) hf (fun hf => ?_) (fun hf => ?_)
      · refine r_iconst (v := 1) (pc := 18) X dX10_isComparison_18 (by decide) ?_
        refine r_goto (tgt := 23) (pc := 19) X dX10_isComparison_19 (by decide) ?_
        exact e_zret (pc := 23) X hr (by decide) hf (Nat.le_refl _) (Nat.le_refl _) dX10_isComparison_23
      · refine r_iconst (v := 0) (pc := 22) X dX10_isComparison_22 (by decide) ?_
        exact e_zret (pc := 23) X hr (by decide) hf (Nat.le_refl _) (Nat.le_refl _) dX10_isComparison_23
/-! f_P_combined -/
theorem dX10_combined_0 : decode cX10_combined 0 = .ok (.iload_n 0, 1) := by decide +kernel
theorem dX10_combined_1 : decode cX10_combined 1 = .ok (.lookupswitch 181 #[(38, 145), (42, 91), (43, 83), (45, 87), (47, 95), (60, 109), (61, 133), (62, 121), (124, 163)], 83) := by decide +kernel
theorem dX10_combined_84 : decode cX10_combined 84 = .ok (.lload_n 1, 1) := by decide +kernel
theorem dX10_combined_85 : decode cX10_combined 85 = .ok (.lload_n 3, 1) := by decide +kernel
theorem dX10_combined_86 : decode cX10_combined 86 = .ok (.ladd, 1) := by decide +kernel
theorem dX10_combined_87 : decode cX10_combined 87 = .ok (.lreturn, 1) := by decide +kernel
theorem dX10_combined_88 : decode cX10_combined 88 = .ok (.lload_n 1, 1) := by decide +kernel
theorem dX10_combined_89 : decode cX10_combined 89 = .ok (.lload_n 3, 1) := by decide +kernel
theorem dX10_combined_90 : decode cX10_combined 90 = .ok (.lsub, 1) := by decide +kernel
theorem dX10_combined_91 : decode cX10_combined 91 = .ok (.lreturn, 1) := by decide +kernel
theorem dX10_combined_92 : decode cX10_combined 92 = .ok (.lload_n 1, 1) := by decide +kernel
theorem dX10_combined_93 : decode cX10_combined 93 = .ok (.lload_n 3, 1) := by decide +kernel
theorem dX10_combined_94 : decode cX10_combined 94 = .ok (.lmul, 1) := by decide +kernel
theorem dX10_combined_95 : decode cX10_combined 95 = .ok (.lreturn, 1) := by decide +kernel
theorem dX10_combined_96 : decode cX10_combined 96 = .ok (.lload_n 3, 1) := by decide +kernel
theorem dX10_combined_97 : decode cX10_combined 97 = .ok (.lconst 0, 1) := by decide +kernel
theorem dX10_combined_98 : decode cX10_combined 98 = .ok (.lcmp, 1) := by decide +kernel
theorem dX10_combined_99 : decode cX10_combined 99 = .ok (.ifCond .ne 7, 3) := by decide +kernel
theorem dX10_combined_102 : decode cX10_combined 102 = .ok (.lconst 0, 1) := by decide +kernel
theorem dX10_combined_103 : decode cX10_combined 103 = .ok (.goto 6, 3) := by decide +kernel
theorem dX10_combined_106 : decode cX10_combined 106 = .ok (.lload_n 1, 1) := by decide +kernel
theorem dX10_combined_107 : decode cX10_combined 107 = .ok (.lload_n 3, 1) := by decide +kernel
theorem dX10_combined_108 : decode cX10_combined 108 = .ok (.ldiv, 1) := by decide +kernel
theorem dX10_combined_109 : decode cX10_combined 109 = .ok (.lreturn, 1) := by decide +kernel
theorem dX10_combined_110 : decode cX10_combined 110 = .ok (.lload_n 1, 1) := by decide +kernel
theorem dX10_combined_111 : decode cX10_combined 111 = .ok (.lload_n 3, 1) := by decide +kernel
theorem dX10_combined_112 : decode cX10_combined 112 = .ok (.lcmp, 1) := by decide +kernel
theorem dX10_combined_113 : decode cX10_combined 113 = .ok (.ifCond .ge 7, 3) := by decide +kernel
theorem dX10_combined_116 : decode cX10_combined 116 = .ok (.lconst 1, 1) := by decide +kernel
theorem dX10_combined_117 : decode cX10_combined 117 = .ok (.goto 4, 3) := by decide +kernel
theorem dX10_combined_120 : decode cX10_combined 120 = .ok (.lconst 0, 1) := by decide +kernel
theorem dX10_combined_121 : decode cX10_combined 121 = .ok (.lreturn, 1) := by decide +kernel
theorem dX10_combined_122 : decode cX10_combined 122 = .ok (.lload_n 1, 1) := by decide +kernel
theorem dX10_combined_123 : decode cX10_combined 123 = .ok (.lload_n 3, 1) := by decide +kernel
theorem dX10_combined_124 : decode cX10_combined 124 = .ok (.lcmp, 1) := by decide +kernel
theorem dX10_combined_125 : decode cX10_combined 125 = .ok (.ifCond .le 7, 3) := by decide +kernel
theorem dX10_combined_128 : decode cX10_combined 128 = .ok (.lconst 1, 1) := by decide +kernel
theorem dX10_combined_129 : decode cX10_combined 129 = .ok (.goto 4, 3) := by decide +kernel
theorem dX10_combined_132 : decode cX10_combined 132 = .ok (.lconst 0, 1) := by decide +kernel
theorem dX10_combined_133 : decode cX10_combined 133 = .ok (.lreturn, 1) := by decide +kernel
theorem dX10_combined_134 : decode cX10_combined 134 = .ok (.lload_n 1, 1) := by decide +kernel
theorem dX10_combined_135 : decode cX10_combined 135 = .ok (.lload_n 3, 1) := by decide +kernel
theorem dX10_combined_136 : decode cX10_combined 136 = .ok (.lcmp, 1) := by decide +kernel
theorem dX10_combined_137 : decode cX10_combined 137 = .ok (.ifCond .ne 7, 3) := by decide +kernel
theorem dX10_combined_140 : decode cX10_combined 140 = .ok (.lconst 1, 1) := by decide +kernel
theorem dX10_combined_141 : decode cX10_combined 141 = .ok (.goto 4, 3) := by decide +kernel
theorem dX10_combined_144 : decode cX10_combined 144 = .ok (.lconst 0, 1) := by decide +kernel
theorem dX10_combined_145 : decode cX10_combined 145 = .ok (.lreturn, 1) := by decide +kernel
theorem dX10_combined_146 : decode cX10_combined 146 = .ok (.lload_n 1, 1) := by decide +kernel
theorem dX10_combined_147 : decode cX10_combined 147 = .ok (.lconst 0, 1) := by decide +kernel
theorem dX10_combined_148 : decode cX10_combined 148 = .ok (.lcmp, 1) := by decide +kernel
theorem dX10_combined_149 : decode cX10_combined 149 = .ok (.ifCond .eq 13, 3) := by decide +kernel
theorem dX10_combined_152 : decode cX10_combined 152 = .ok (.lload_n 3, 1) := by decide +kernel
theorem dX10_combined_153 : decode cX10_combined 153 = .ok (.lconst 0, 1) := by decide +kernel
theorem dX10_combined_154 : decode cX10_combined 154 = .ok (.lcmp, 1) := by decide +kernel
theorem dX10_combined_155 : decode cX10_combined 155 = .ok (.ifCond .eq 7, 3) := by decide +kernel
theorem dX10_combined_158 : decode cX10_combined 158 = .ok (.lconst 1, 1) := by decide +kernel
theorem dX10_combined_159 : decode cX10_combined 159 = .ok (.goto 4, 3) := by decide +kernel
theorem dX10_combined_162 : decode cX10_combined 162 = .ok (.lconst 0, 1) := by decide +kernel
theorem dX10_combined_163 : decode cX10_combined 163 = .ok (.lreturn, 1) := by decide +kernel
theorem dX10_combined_164 : decode cX10_combined 164 = .ok (.lload_n 1, 1) := by decide +kernel
theorem dX10_combined_165 : decode cX10_combined 165 = .ok (.lconst 0, 1) := by decide +kernel
theorem dX10_combined_166 : decode cX10_combined 166 = .ok (.lcmp, 1) := by decide +kernel
theorem dX10_combined_167 : decode cX10_combined 167 = .ok (.ifCond .ne 9, 3) := by decide +kernel
theorem dX10_combined_170 : decode cX10_combined 170 = .ok (.lload_n 3, 1) := by decide +kernel
theorem dX10_combined_171 : decode cX10_combined 171 = .ok (.lconst 0, 1) := by decide +kernel
theorem dX10_combined_172 : decode cX10_combined 172 = .ok (.lcmp, 1) := by decide +kernel
theorem dX10_combined_173 : decode cX10_combined 173 = .ok (.ifCond .eq 7, 3) := by decide +kernel
theorem dX10_combined_176 : decode cX10_combined 176 = .ok (.lconst 1, 1) := by decide +kernel
theorem dX10_combined_177 : decode cX10_combined 177 = .ok (.goto 4, 3) := by decide +kernel
theorem dX10_combined_180 : decode cX10_combined 180 = .ok (.lconst 0, 1) := by decide +kernel
theorem dX10_combined_181 : decode cX10_combined 181 = .ok (.lreturn, 1) := by decide +kernel
theorem dX10_combined_182 : decode cX10_combined 182 = .ok (.lconst 0, 1) := by decide +kernel
theorem dX10_combined_183 : decode cX10_combined 183 = .ok (.lreturn, 1) := by decide +kernel
def f_P_combined (F : Nat) (s : St) (p0 : Int32) (p1 : Int64) (p3 : Int64) : Option (Int64 × St) :=
  if p0 = 38 then
    (if p1 = 0 then
      (some (0, s))
    else
      (if p3 = 0 then
        (some (0, s))
      else
        (some (1, s))))
  else if p0 = 42 then
    (some ((p1 * p3), s))
  else if p0 = 43 then
    (some ((p1 + p3), s))
  else if p0 = 45 then
    (some ((p1 - p3), s))
  else if p0 = 47 then
    (if p3 = 0 then
      (some (0, s))
    else
      (if p3 = 0 then none else (some ((p1 / p3), s))))
  else if p0 = 60 then
    (if p3 ≤ p1 then
      (some (0, s))
    else
      (some (1, s)))
  else if p0 = 61 then
    (if p1 = p3 then
      (some (1, s))
    else
      (some (0, s)))
  else if p0 = 62 then
    (if p1 ≤ p3 then
      (some (0, s))
    else
      (some (1, s)))
  else if p0 = 124 then
    (if p1 = 0 then
      (if p3 = 0 then
        (some (0, s))
      else
        (some (1, s)))
    else
      (some (1, s)))
  else 
    (some (0, s))
set_option maxHeartbeats 1000000 in
theorem c_f_P_combined {F : Nat} {s : St} {p0 : Int32} {p1 : Int64} {p3 : Int64} {r : Int64} {s' : St} (hf : f_P_combined F s p0 p1 p3 = some (r, s')) : CC true yX10_combined (Cond.code yX10_combined cX10_combined 5 (some .long)) 0 0 (fun B => [.int p0, .long p1, .long p3]) s (fun B => (some (.long r))) s' 0 0 := by
  refine CC.of (fun B => [(0, .int p0), (1, .long p1), (3, .long p3)]) (by decide +kernel) (fun _ => rfl) (fun _ => (by simp [lg_sl, rfB_cat, catI, catL, catR])) (fun Γ D B X hr hin => ?_)
  have X : Cx Γ RX10 cX10_combined 5 D B { frames := 0, cells := 0, slots := 0, locals := 0 } := X
  unfold f_P_combined at hf
  refine r_iload_n (pc := 0) X dX10_combined_0 0 rfl ?_
  refine sw hf (fun e0 hf => ?_) (fun e0 hf => ?_)
  · refine r_lookup (tgt := 146) (pc := 1) X dX10_combined_1 (by decide) (by rw [e0] <;> rfl) (by decide) ?_
    refine r_lload_n (pc := 146) X dX10_combined_146 1 rfl ?_
    refine r_lconst (v := 0) (pc := 147) X dX10_combined_147 (by decide) ?_
    refine b_lcmp_eq (tgt := 162) (pc := 148) X dX10_combined_148 dX10_combined_149 (by decide) hf (fun hf => ?_) (fun hf => ?_)
    · refine r_lconst (v := 0) (pc := 162) X dX10_combined_162 (by decide) ?_
      exact e_lret (pc := 163) X hr hf (Nat.le_refl _) (Nat.le_refl _) dX10_combined_163
    · refine r_lload_n (pc := 152) X dX10_combined_152 2 rfl ?_
      refine r_lconst (v := 0) (pc := 153) X dX10_combined_153 (by decide) ?_
      refine b_lcmp_eq (tgt := 162) (pc := 154) X dX10_combined_154 dX10_combined_155 (by decide) hf (fun hf => ?_) (fun hf => ?_)
      · refine r_lconst (v := 0) (pc := 162) X dX10_combined_162 (by decide) ?_
        exact e_lret (pc := 163) X hr hf (Nat.le_refl _) (Nat.le_refl _) dX10_combined_163
      · refine r_lconst (v := 1) (pc := 158) X dX10_combined_158 (by decide) ?_
        refine r_goto (tgt := 163) (pc := 159) X dX10_combined_159 (by decide) ?_
        exact e_lret (pc := 163) X hr hf (Nat.le_refl _) (Nat.le_refl _) dX10_combined_163
  refine sw hf (fun e1 hf => ?_) (fun e1 hf => ?_)
  · refine r_lookup (tgt := 92) (pc := 1) X dX10_combined_1 (by decide) (by rw [e1] <;> rfl) (by decide) ?_
    refine r_lload_n (pc := 92) X dX10_combined_92 1 rfl ?_
    refine r_lload_n (pc := 93) X dX10_combined_93 2 rfl ?_
    refine r_lmul (pc := 94) X dX10_combined_94 ?_
    exact e_lret (pc := 95) X hr hf (Nat.le_refl _) (Nat.le_refl _) dX10_combined_95
  refine sw hf (fun e2 hf => ?_) (fun e2 hf => ?_)
  · refine r_lookup (tgt := 84) (pc := 1) X dX10_combined_1 (by decide) (by rw [e2] <;> rfl) (by decide) ?_
    refine r_lload_n (pc := 84) X dX10_combined_84 1 rfl ?_
    refine r_lload_n (pc := 85) X dX10_combined_85 2 rfl ?_
    refine r_ladd (pc := 86) X dX10_combined_86 ?_
    exact e_lret (pc := 87) X hr hf (Nat.le_refl _) (Nat.le_refl _) dX10_combined_87
  refine sw hf (fun e3 hf => ?_) (fun e3 hf => ?_)
  · refine r_lookup (tgt := 88) (pc := 1) X dX10_combined_1 (by decide) (by rw [e3] <;> rfl) (by decide) ?_
    refine r_lload_n (pc := 88) X dX10_combined_88 1 rfl ?_
    refine r_lload_n (pc := 89) X dX10_combined_89 2 rfl ?_
    refine r_lsub (pc := 90) X dX10_combined_90 ?_
    exact e_lret (pc := 91) X hr hf (Nat.le_refl _) (Nat.le_refl _) dX10_combined_91
  refine sw hf (fun e4 hf => ?_) (fun e4 hf => ?_)
  · refine r_lookup (tgt := 96) (pc := 1) X dX10_combined_1 (by decide) (by rw [e4] <;> rfl) (by decide) ?_
    refine r_lload_n (pc := 96) X dX10_combined_96 2 rfl ?_
    refine r_lconst (v := 0) (pc := 97) X dX10_combined_97 (by decide) ?_
    refine b_lcmp_ne (tgt := 106) (pc := 98) X dX10_combined_98 dX10_combined_99 (by decide) hf (fun hf => ?_) (fun hf => ?_)
    · refine r_lconst (v := 0) (pc := 102) X dX10_combined_102 (by decide) ?_
      refine r_goto (tgt := 109) (pc := 103) X dX10_combined_103 (by decide) ?_
      exact e_lret (pc := 109) X hr hf (Nat.le_refl _) (Nat.le_refl _) dX10_combined_109
    · refine r_lload_n (pc := 106) X dX10_combined_106 1 rfl ?_
      refine r_lload_n (pc := 107) X dX10_combined_107 2 rfl ?_
      refine ifz hf (fun hne hf => ?_)
      refine r_ldiv (pc := 108) X dX10_combined_108 hne ?_
      exact e_lret (pc := 109) X hr hf (Nat.le_refl _) (Nat.le_refl _) dX10_combined_109
  refine sw hf (fun e5 hf => ?_) (fun e5 hf => ?_)
  · refine r_lookup (tgt := 110) (pc := 1) X dX10_combined_1 (by decide) (by rw [e5] <;> rfl) (by decide) ?_
    refine r_lload_n (pc := 110) X dX10_combined_110 1 rfl ?_
    refine r_lload_n (pc := 111) X dX10_combined_111 2 rfl ?_
    refine b_lcmp_ge (tgt := 120) (pc := 112) X dX10_combined_112 dX10_combined_113 (by decide) hf (fun hf => ?_) (fun hf => ?_)
    · refine r_lconst (v := 0) (pc := 120) X dX10_combined_120 (by decide) ?_
      exact e_lret (pc := 121) X hr hf (Nat.le_refl _) (Nat.le_refl _) dX10_combined_121
    · refine r_lconst (v := 1) (pc := 116) X dX10_combined_116 (by decide) ?_
      refine r_goto (tgt := 121) (pc := 117) X dX10_combined_117 (by decide) ?_
      exact e_lret (pc := 121) X hr hf (Nat.le_refl _) (Nat.le_refl _) dX10_combined_121
  refine sw hf (fun e6 hf => ?_) (fun e6 hf => ?_)
  · refine r_lookup (tgt := 134) (pc := 1) X dX10_combined_1 (by decide) (by rw [e6] <;> rfl) (by decide) ?_
    refine r_lload_n (pc := 134) X dX10_combined_134 1 rfl ?_
    refine r_lload_n (pc := 135) X dX10_combined_135 2 rfl ?_
    refine b_lcmp_ne (tgt := 144) (pc := 136) X dX10_combined_136 dX10_combined_137 (by decide) hf (fun hf => ?_) (fun hf => ?_)
    · refine r_lconst (v := 1) (pc := 140) X dX10_combined_140 (by decide) ?_
      refine r_goto (tgt := 145) (pc := 141) X dX10_combined_141 (by decide) ?_
      exact e_lret (pc := 145) X hr hf (Nat.le_refl _) (Nat.le_refl _) dX10_combined_145
    · refine r_lconst (v := 0) (pc := 144) X dX10_combined_144 (by decide) ?_
      exact e_lret (pc := 145) X hr hf (Nat.le_refl _) (Nat.le_refl _) dX10_combined_145
  refine sw hf (fun e7 hf => ?_) (fun e7 hf => ?_)
  · refine r_lookup (tgt := 122) (pc := 1) X dX10_combined_1 (by decide) (by rw [e7] <;> rfl) (by decide) ?_
    refine r_lload_n (pc := 122) X dX10_combined_122 1 rfl ?_
    refine r_lload_n (pc := 123) X dX10_combined_123 2 rfl ?_
    refine b_lcmp_le (tgt := 132) (pc := 124) X dX10_combined_124 dX10_combined_125 (by decide) hf (fun hf => ?_) (fun hf => ?_)
    · refine r_lconst (v := 0) (pc := 132) X dX10_combined_132 (by decide) ?_
      exact e_lret (pc := 133) X hr hf (Nat.le_refl _) (Nat.le_refl _) dX10_combined_133
    · refine r_lconst (v := 1) (pc := 128) X dX10_combined_128 (by decide) ?_
      refine r_goto (tgt := 133) (pc := 129) X dX10_combined_129 (by decide) ?_
      exact e_lret (pc := 133) X hr hf (Nat.le_refl _) (Nat.le_refl _) dX10_combined_133
  refine sw hf (fun e8 hf => ?_) (fun e8 hf => ?_)
  · refine r_lookup (tgt := 164) (pc := 1) X dX10_combined_1 (by decide) (by rw [e8] <;> rfl) (by decide) ?_
    refine r_lload_n (pc := 164) X dX10_combined_164 1 rfl ?_
    refine r_lconst (v := 0) (pc := 165) X dX10_combined_165 (by decide) ?_
    refine b_lcmp_ne (tgt := 176) (pc := 166) X dX10_combined_166 dX10_combined_167 (by decide) hf (fun hf => ?_) (fun hf => ?_)
    · refine r_lload_n (pc := 170) X dX10_combined_170 2 rfl ?_
      refine r_lconst (v := 0) (pc := 171) X dX10_combined_171 (by decide) ?_
      refine b_lcmp_eq (tgt := 180) (pc := 172) X dX10_combined_172 dX10_combined_173 (by decide) hf (fun hf => ?_) (fun hf => ?_)
      · refine r_lconst (v := 0) (pc := 180) X dX10_combined_180 (by decide) ?_
        exact e_lret (pc := 181) X hr hf (Nat.le_refl _) (Nat.le_refl _) dX10_combined_181
      · refine r_lconst (v := 1) (pc := 176) X dX10_combined_176 (by decide) ?_
        refine r_goto (tgt := 181) (pc := 177) X dX10_combined_177 (by decide) ?_
        exact e_lret (pc := 181) X hr hf (Nat.le_refl _) (Nat.le_refl _) dX10_combined_181
    · refine r_lconst (v := 1) (pc := 176) X dX10_combined_176 (by decide) ?_
      refine r_goto (tgt := 181) (pc := 177) X dX10_combined_177 (by decide) ?_
      exact e_lret (pc := 181) X hr hf (Nat.le_refl _) (Nat.le_refl _) dX10_combined_181
  · refine r_lookup (off := 181) (tgt := 182) (pc := 1) X dX10_combined_1 (by decide) ((lv_osw e0 (by decide)).trans ((lv_osw e1 (by decide)).trans ((lv_osw e2 (by decide)).trans ((lv_osw e3 (by decide)).trans ((lv_osw e4 (by decide)).trans ((lv_osw e5 (by decide)).trans ((lv_osw e6 (by decide)).trans ((lv_osw e7 (by decide)).trans ((lv_osw e8 (by decide)).trans rfl))))))))) (by decide) ?_
    refine r_lconst (v := 0) (pc := 182) X dX10_combined_182 (by decide) ?_
    exact e_lret (pc := 183) X hr hf (Nat.le_refl _) (Nat.le_refl _) dX10_combined_183
/-! f_Alarms_waits -/
theorem dX0_waits_0 : decode cX0_waits 0 = .ok (.iload_n 1, 1) := by decide +kernel
theorem dX0_waits_1 : decode cX0_waits 1 = .ok (.aload_n 0, 1) := by decide +kernel
theorem dX0_waits_2 : decode cX0_waits 2 = .ok (.getfield 32, 3) := by decide +kernel
theorem dX0_waits_5 : decode cX0_waits 5 = .ok (.if_icmp .lt 7, 3) := by decide +kernel
theorem dX0_waits_8 : decode cX0_waits 8 = .ok (.iconst 1, 1) := by decide +kernel
theorem dX0_waits_9 : decode cX0_waits 9 = .ok (.goto 4, 3) := by decide +kernel
theorem dX0_waits_12 : decode cX0_waits 12 = .ok (.iconst 0, 1) := by decide +kernel
theorem dX0_waits_13 : decode cX0_waits 13 = .ok (.ireturn, 1) := by decide +kernel
def f_Alarms_waits (F : Nat) (s : St) (p1 : Int32) : Option (Int32 × St) :=
  if p1 < (gI s 1158) then
    (some (0, s))
  else
    (some (1, s))
set_option maxHeartbeats 1000000 in
theorem c_f_Alarms_waits {F : Nat} {s : St} {p1 : Int32} {r : Int32} {s' : St} (hf : f_Alarms_waits F s p1 = some (r, s')) : CC true yX0_waits (Cond.code yX0_waits cX0_waits 2 (some .boolean)) 0 0 (fun B => [.ref (B + 18), .int p1]) s (fun B => (some (.int r))) s' 0 0 := by
  refine CC.of (fun B => [(0, .ref (B + 18)), (1, .int p1)]) (by decide +kernel) (fun _ => rfl) (fun _ => (by simp [lg_sl, rfB_cat, catI, catL, catR])) (fun Γ D B X hr hin => ?_)
  have X : Cx Γ RX0 cX0_waits 2 D B { frames := 0, cells := 0, slots := 0, locals := 0 } := X
  unfold f_Alarms_waits at hf
  refine r_iload_n (pc := 0) X dX0_waits_0 1 rfl ?_
  refine r_aload_n (x := some 18) (pc := 1) X dX0_waits_1 0 rfl ?_
  refine r_get (j := 6) (pc := 2) X ce_18 rfl inT0 (by decide) w_162 rfl dX0_waits_2 ?_
  refine b_icmp_lt (tgt := 12) (pc := 5) X dX0_waits_5 (by decide) hf (fun hf => ?_) (fun hf => ?_)
  · refine r_iconst (v := 0) (pc := 12) X dX0_waits_12 (by decide) ?_
    exact e_zret (pc := 13) X hr (by decide) hf (Nat.le_refl _) (Nat.le_refl _) dX0_waits_13
  · refine r_iconst (v := 1) (pc := 8) X dX0_waits_8 (by decide) ?_
    refine r_goto (tgt := 13) (pc := 9) X dX0_waits_9 (by decide) ?_
    exact e_zret (pc := 13) X hr (by decide) hf (Nat.le_refl _) (Nat.le_refl _) dX0_waits_13
/-! f_Alarms_add -/
theorem dX0_add_0 : decode cX0_add 0 = .ok (.aload_n 0, 1) := by decide +kernel
theorem dX0_add_1 : decode cX0_add 1 = .ok (.getfield 28, 3) := by decide +kernel
theorem dX0_add_4 : decode cX0_add 4 = .ok (.iconst 0, 1) := by decide +kernel
theorem dX0_add_5 : decode cX0_add 5 = .ok (.sipush 3999, 3) := by decide +kernel
theorem dX0_add_8 : decode cX0_add 8 = .ok (.invokestatic 35, 3) := by decide +kernel
theorem dX0_add_11 : decode cX0_add 11 = .ok (.ifCond .eq 33, 3) := by decide +kernel
theorem dX0_add_14 : decode cX0_add 14 = .ok (.aload_n 0, 1) := by decide +kernel
theorem dX0_add_15 : decode cX0_add 15 = .ok (.getfield 9, 3) := by decide +kernel
theorem dX0_add_18 : decode cX0_add 18 = .ok (.aload_n 0, 1) := by decide +kernel
theorem dX0_add_19 : decode cX0_add 19 = .ok (.getfield 28, 3) := by decide +kernel
theorem dX0_add_22 : decode cX0_add 22 = .ok (.iload_n 1, 1) := by decide +kernel
theorem dX0_add_23 : decode cX0_add 23 = .ok (.iastore, 1) := by decide +kernel
theorem dX0_add_24 : decode cX0_add 24 = .ok (.aload_n 0, 1) := by decide +kernel
theorem dX0_add_25 : decode cX0_add 25 = .ok (.getfield 15, 3) := by decide +kernel
theorem dX0_add_28 : decode cX0_add 28 = .ok (.aload_n 0, 1) := by decide +kernel
theorem dX0_add_29 : decode cX0_add 29 = .ok (.getfield 28, 3) := by decide +kernel
theorem dX0_add_32 : decode cX0_add 32 = .ok (.iload_n 2, 1) := by decide +kernel
theorem dX0_add_33 : decode cX0_add 33 = .ok (.iastore, 1) := by decide +kernel
theorem dX0_add_34 : decode cX0_add 34 = .ok (.aload_n 0, 1) := by decide +kernel
theorem dX0_add_35 : decode cX0_add 35 = .ok (.dup, 1) := by decide +kernel
theorem dX0_add_36 : decode cX0_add 36 = .ok (.getfield 28, 3) := by decide +kernel
theorem dX0_add_39 : decode cX0_add 39 = .ok (.iconst 1, 1) := by decide +kernel
theorem dX0_add_40 : decode cX0_add 40 = .ok (.iadd, 1) := by decide +kernel
theorem dX0_add_41 : decode cX0_add 41 = .ok (.putfield 28, 3) := by decide +kernel
theorem dX0_add_44 : decode cX0_add 44 = .ok (.return_, 1) := by decide +kernel
def f_Alarms_add (F : Nat) (s : St) (p1 : Int32) (p2 : Int32) : Option (St) :=
  (f_P_isIn F s (gI s 1157) 0 3999).bind fun x1 => (if x1.1 = 0 then
    (some x1.2)
  else
    ((ix 4000 (gI x1.2 1157)).bind fun j2 => (lt (sA x1.2 19 j2 p1) fun s3 => ((ix 4000 (gI s3 1157)).bind fun j4 => (lt (sA s3 20 j4 p2) fun s5 => (lt (sI s5 1157 ((gI s5 1157) + 1)) fun s6 => (some s6)))))))
set_option maxHeartbeats 1000000 in
theorem c_f_Alarms_add {F : Nat} {s : St} {p1 : Int32} {p2 : Int32} {s' : St} (hf : f_Alarms_add F s p1 p2 = some s') : CC true yX0_add (Cond.code yX0_add cX0_add 3 none) 1 22 (fun B => [.ref (B + 18), .int p1, .int p2]) s (fun B => none) s' 0 0 := by
  refine CC.of (fun B => [(0, .ref (B + 18)), (1, .int p1), (2, .int p2)]) (by decide +kernel) (fun _ => rfl) (fun _ => (by simp [lg_sl, rfB_cat, catI, catL, catR])) (fun Γ D B X hr hin => ?_)
  have X : Cx Γ RX0 cX0_add 3 D B { frames := 1, cells := 0, slots := 0, locals := 22 } := X
  unfold f_Alarms_add at hf
  refine r_aload_n (x := some 18) (pc := 0) X dX0_add_0 0 rfl ?_
  refine r_get (j := 5) (pc := 1) X ce_18 rfl inT0 (by decide) w_160 rfl dX0_add_1 ?_
  refine r_iconst (v := 0) (pc := 4) X dX0_add_4 (by decide) ?_
  refine r_sipush (v := 3999) (pc := 5) X dX0_add_5 (by decide) ?_
  refine bnd hf (fun x1 h1 hf => ?_)
  refine r_callSNi (As := [.int (gI s 1157), .int 0, .int 3999]) (st := []) (pc := 8) X (c_f_P_isIn h1) rfl wn_591 w_342 w_36 w_343 hdS_X10_isIn (by decide) (by decide) (by decide) (Nat.le_of_ble_eq_true rfl) dX0_add_8 rfl ?_
  refine b_if_eq (tgt := 44) (pc := 11) X dX0_add_11 (by decide) hf (fun hf => ?_) (fun hf => ?_)
  · exact e_vret (pc := 44) X hr hf (Nat.le_refl _) (Nat.le_refl _) dX0_add_44
  · refine r_aload_n (x := some 18) (pc := 14) X dX0_add_14 0 rfl ?_
    refine r_get (j := 0) (pc := 15) X ce_18 rfl inT0 (by decide) w_150 rfl dX0_add_15 ?_
    refine r_aload_n (x := some 18) (pc := 18) X dX0_add_18 0 rfl ?_
    refine r_get (j := 5) (pc := 19) X ce_18 rfl inT0 (by decide) w_160 rfl dX0_add_19 ?_
    refine r_iload_n (pc := 22) X dX0_add_22 1 rfl ?_
    refine b_iast (pc := 23) X ce_19 (fun _ => ca_19 _ _) dX0_add_23 hf (fun j2 s3 hf => ?_)
    refine r_aload_n (x := some 18) (pc := 24) X dX0_add_24 0 rfl ?_
    refine r_get (j := 1) (pc := 25) X ce_18 rfl inT0 (by decide) w_152 rfl dX0_add_25 ?_
    refine r_aload_n (x := some 18) (pc := 28) X dX0_add_28 0 rfl ?_
    refine r_get (j := 5) (pc := 29) X ce_18 rfl inT0 (by decide) w_160 rfl dX0_add_29 ?_
    refine r_iload_n (pc := 32) X dX0_add_32 2 rfl ?_
    refine b_iast (pc := 33) X ce_20 (fun _ => ca_20 _ _) dX0_add_33 hf (fun j4 s5 hf => ?_)
    refine r_aload_n (x := some 18) (pc := 34) X dX0_add_34 0 rfl ?_
    refine r_dup (pc := 35) X dX0_add_35 rfl ?_
    refine r_get (j := 5) (pc := 36) X ce_18 rfl inT0 (by decide) w_160 rfl dX0_add_36 ?_
    refine r_iconst (v := 1) (pc := 39) X dX0_add_39 (by decide) ?_
    refine r_iadd (pc := 40) X dX0_add_40 ?_
    refine b_put (j := 5) (pc := 41) X ce_18 rfl inT0 tyX0 tyX0_ok nmX0 (by decide) w_160 rfl (tyX0_ok 5 (by decide)) rfl rfl (Nat.le_of_ble_eq_true rfl) (cp_1157 _) rfl rfl dX0_add_41 hf (fun s6 hf => ?_)
    exact e_vret (pc := 44) X hr hf (Nat.le_refl _) (Nat.le_refl _) dX0_add_44
