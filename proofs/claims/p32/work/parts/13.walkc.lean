/-! f_Runner_pull -/
theorem dX7_pull_0 : decode cX7_pull 0 = .ok (.aload_n 0, 1) := by decide +kernel
theorem dX7_pull_1 : decode cX7_pull 1 = .ok (.getfield 22, 3) := by decide +kernel
theorem dX7_pull_4 : decode cX7_pull 4 = .ok (.iconst 1, 1) := by decide +kernel
theorem dX7_pull_5 : decode cX7_pull 5 = .ok (.aload_n 0, 1) := by decide +kernel
theorem dX7_pull_6 : decode cX7_pull 6 = .ok (.getfield 18, 3) := by decide +kernel
theorem dX7_pull_9 : decode cX7_pull 9 = .ok (.arraylength, 1) := by decide +kernel
theorem dX7_pull_10 : decode cX7_pull 10 = .ok (.invokestatic 83, 3) := by decide +kernel
theorem dX7_pull_13 : decode cX7_pull 13 = .ok (.ifCond .ne 5, 3) := by decide +kernel
theorem dX7_pull_16 : decode cX7_pull 16 = .ok (.lconst 0, 1) := by decide +kernel
theorem dX7_pull_17 : decode cX7_pull 17 = .ok (.lreturn, 1) := by decide +kernel
theorem dX7_pull_18 : decode cX7_pull 18 = .ok (.aload_n 0, 1) := by decide +kernel
theorem dX7_pull_19 : decode cX7_pull 19 = .ok (.dup, 1) := by decide +kernel
theorem dX7_pull_20 : decode cX7_pull 20 = .ok (.getfield 22, 3) := by decide +kernel
theorem dX7_pull_23 : decode cX7_pull 23 = .ok (.iconst 1, 1) := by decide +kernel
theorem dX7_pull_24 : decode cX7_pull 24 = .ok (.isub, 1) := by decide +kernel
theorem dX7_pull_25 : decode cX7_pull 25 = .ok (.putfield 22, 3) := by decide +kernel
theorem dX7_pull_28 : decode cX7_pull 28 = .ok (.aload_n 0, 1) := by decide +kernel
theorem dX7_pull_29 : decode cX7_pull 29 = .ok (.getfield 18, 3) := by decide +kernel
theorem dX7_pull_32 : decode cX7_pull 32 = .ok (.aload_n 0, 1) := by decide +kernel
theorem dX7_pull_33 : decode cX7_pull 33 = .ok (.getfield 22, 3) := by decide +kernel
theorem dX7_pull_36 : decode cX7_pull 36 = .ok (.laload, 1) := by decide +kernel
theorem dX7_pull_37 : decode cX7_pull 37 = .ok (.lreturn, 1) := by decide +kernel
def f_Runner_pull (F : Nat) (s : St)  : Option (Int64 × St) :=
  (f_P_isIn F s (gI s 2178) 1 40).bind fun x1 => (if x1.1 = 0 then
    (some (0, x1.2))
  else
    (lt (sI x1.2 2178 ((gI x1.2 2178) - 1)) fun s2 => ((ix 40 (gI s2 2178)).bind fun j3 => (some ((gJ s2 38 j3), s2)))))
set_option maxHeartbeats 1000000 in
theorem c_f_Runner_pull {F : Nat} {s : St}  {r : Int64} {s' : St} (hf : f_Runner_pull F s  = some (r, s')) : CC true yX7_pull (Cond.code yX7_pull cX7_pull 1 (some .long)) 1 22 (fun B => [.ref (B + 34)]) s (fun B => (some (.long r))) s' 0 0 := by
  refine CC.of (fun B => [(0, .ref (B + 34))]) (by decide +kernel) (fun _ => rfl) (fun _ => (by simp [lg_sl, rfB_cat, catI, catL, catR])) (fun Γ D B X hr hin => ?_)
  have X : Cx Γ RX7 cX7_pull 1 D B { frames := 1, cells := 0, slots := 0, locals := 22 } := X
  unfold f_Runner_pull at hf
  refine r_aload_n (x := some 34) (pc := 0) X dX7_pull_0 0 rfl ?_
  refine r_get (j := 2) (pc := 1) X ce_34 rfl inT7 (by decide) w_271 rfl dX7_pull_1 ?_
  refine r_iconst (v := 1) (pc := 4) X dX7_pull_4 (by decide) ?_
  refine r_aload_n (x := some 34) (pc := 5) X dX7_pull_5 0 rfl ?_
  refine r_get (j := 1) (pc := 6) X ce_34 rfl inT7 (by decide) w_270 rfl dX7_pull_6 ?_
  refine r_alen (t0 := 2) (v := 40) (pc := 9) X ce_38 rfl (by decide) dX7_pull_9 ?_
  refine bnd hf (fun x1 h1 hf => ?_)
  refine r_callSNi (As := [.int (gI s 2178), .int 1, .int 40]) (st := []) (pc := 10) X (c_f_P_isIn h1) rfl wn_960 w_342 w_36 w_343 hdS_X10_isIn (by decide) (by decide) (by decide) (Nat.le_of_ble_eq_true rfl) dX7_pull_10 rfl ?_
  refine b_if_ne (tgt := 18) (pc := 13) X dX7_pull_13 (by decide) hf (fun hf => ?_) (fun hf => ?_)
  · refine r_lconst (v := 0) (pc := 16) X dX7_pull_16 (by decide) ?_
    exact e_lret (pc := 17) X hr hf (Nat.le_refl _) (Nat.le_refl _) dX7_pull_17
  · refine r_aload_n (x := some 34) (pc := 18) X dX7_pull_18 0 rfl ?_
    refine r_dup (pc := 19) X dX7_pull_19 rfl ?_
    refine r_get (j := 2) (pc := 20) X ce_34 rfl inT7 (by decide) w_271 rfl dX7_pull_20 ?_
    refine r_iconst (v := 1) (pc := 23) X dX7_pull_23 (by decide) ?_
    refine r_isub (pc := 24) X dX7_pull_24 ?_
    refine b_put (j := 2) (pc := 25) X ce_34 rfl inT7 tyX7 tyX7_ok nmX7 (by decide) w_271 rfl (tyX7_ok 2 (by decide)) rfl rfl (Nat.le_of_ble_eq_true rfl) (cp_2178 _) rfl rfl dX7_pull_25 hf (fun s2 hf => ?_)
    refine r_aload_n (x := some 34) (pc := 28) X dX7_pull_28 0 rfl ?_
    refine r_get (j := 1) (pc := 29) X ce_34 rfl inT7 (by decide) w_270 rfl dX7_pull_29 ?_
    refine r_aload_n (x := some 34) (pc := 32) X dX7_pull_32 0 rfl ?_
    refine r_get (j := 2) (pc := 33) X ce_34 rfl inT7 (by decide) w_271 rfl dX7_pull_33 ?_
    refine b_lald (pc := 36) X ce_38 dX7_pull_36 hf (fun j3 hf => ?_)
    exact e_lret (pc := 37) X hr hf (Nat.le_refl _) (Nat.le_refl _) dX7_pull_37
/-! f_Runner_push -/
theorem dX7_push_0 : decode cX7_push 0 = .ok (.aload_n 0, 1) := by decide +kernel
theorem dX7_push_1 : decode cX7_push 1 = .ok (.getfield 22, 3) := by decide +kernel
theorem dX7_push_4 : decode cX7_push 4 = .ok (.iconst 0, 1) := by decide +kernel
theorem dX7_push_5 : decode cX7_push 5 = .ok (.aload_n 0, 1) := by decide +kernel
theorem dX7_push_6 : decode cX7_push 6 = .ok (.getfield 18, 3) := by decide +kernel
theorem dX7_push_9 : decode cX7_push 9 = .ok (.arraylength, 1) := by decide +kernel
theorem dX7_push_10 : decode cX7_push 10 = .ok (.iconst 1, 1) := by decide +kernel
theorem dX7_push_11 : decode cX7_push 11 = .ok (.isub, 1) := by decide +kernel
theorem dX7_push_12 : decode cX7_push 12 = .ok (.invokestatic 83, 3) := by decide +kernel
theorem dX7_push_15 : decode cX7_push 15 = .ok (.ifCond .eq 23, 3) := by decide +kernel
theorem dX7_push_18 : decode cX7_push 18 = .ok (.aload_n 0, 1) := by decide +kernel
theorem dX7_push_19 : decode cX7_push 19 = .ok (.getfield 18, 3) := by decide +kernel
theorem dX7_push_22 : decode cX7_push 22 = .ok (.aload_n 0, 1) := by decide +kernel
theorem dX7_push_23 : decode cX7_push 23 = .ok (.getfield 22, 3) := by decide +kernel
theorem dX7_push_26 : decode cX7_push 26 = .ok (.lload_n 1, 1) := by decide +kernel
theorem dX7_push_27 : decode cX7_push 27 = .ok (.lastore, 1) := by decide +kernel
theorem dX7_push_28 : decode cX7_push 28 = .ok (.aload_n 0, 1) := by decide +kernel
theorem dX7_push_29 : decode cX7_push 29 = .ok (.dup, 1) := by decide +kernel
theorem dX7_push_30 : decode cX7_push 30 = .ok (.getfield 22, 3) := by decide +kernel
theorem dX7_push_33 : decode cX7_push 33 = .ok (.iconst 1, 1) := by decide +kernel
theorem dX7_push_34 : decode cX7_push 34 = .ok (.iadd, 1) := by decide +kernel
theorem dX7_push_35 : decode cX7_push 35 = .ok (.putfield 22, 3) := by decide +kernel
theorem dX7_push_38 : decode cX7_push 38 = .ok (.return_, 1) := by decide +kernel
def f_Runner_push (F : Nat) (s : St) (p1 : Int64) : Option (St) :=
  (f_P_isIn F s (gI s 2178) 0 ((40 : Int32) - 1)).bind fun x1 => (if x1.1 = 0 then
    (some x1.2)
  else
    ((ix 40 (gI x1.2 2178)).bind fun j2 => (lt (sJ x1.2 38 j2 p1) fun s3 => (lt (sI s3 2178 ((gI s3 2178) + 1)) fun s4 => (some s4)))))
set_option maxHeartbeats 1000000 in
theorem c_f_Runner_push {F : Nat} {s : St} {p1 : Int64} {s' : St} (hf : f_Runner_push F s p1 = some s') : CC true yX7_push (Cond.code yX7_push cX7_push 3 none) 1 22 (fun B => [.ref (B + 34), .long p1]) s (fun B => none) s' 0 0 := by
  refine CC.of (fun B => [(0, .ref (B + 34)), (1, .long p1)]) (by decide +kernel) (fun _ => rfl) (fun _ => (by simp [lg_sl, rfB_cat, catI, catL, catR])) (fun Γ D B X hr hin => ?_)
  have X : Cx Γ RX7 cX7_push 3 D B { frames := 1, cells := 0, slots := 0, locals := 22 } := X
  unfold f_Runner_push at hf
  refine r_aload_n (x := some 34) (pc := 0) X dX7_push_0 0 rfl ?_
  refine r_get (j := 2) (pc := 1) X ce_34 rfl inT7 (by decide) w_271 rfl dX7_push_1 ?_
  refine r_iconst (v := 0) (pc := 4) X dX7_push_4 (by decide) ?_
  refine r_aload_n (x := some 34) (pc := 5) X dX7_push_5 0 rfl ?_
  refine r_get (j := 1) (pc := 6) X ce_34 rfl inT7 (by decide) w_270 rfl dX7_push_6 ?_
  refine r_alen (t0 := 2) (v := 40) (pc := 9) X ce_38 rfl (by decide) dX7_push_9 ?_
  refine r_iconst (v := 1) (pc := 10) X dX7_push_10 (by decide) ?_
  refine r_isub (pc := 11) X dX7_push_11 ?_
  refine bnd hf (fun x1 h1 hf => ?_)
  refine r_callSNi (As := [.int (gI s 2178), .int 0, .int ((40 : Int32) - 1)]) (st := []) (pc := 12) X (c_f_P_isIn h1) rfl wn_960 w_342 w_36 w_343 hdS_X10_isIn (by decide) (by decide) (by decide) (Nat.le_of_ble_eq_true rfl) dX7_push_12 rfl ?_
  refine b_if_eq (tgt := 38) (pc := 15) X dX7_push_15 (by decide) hf (fun hf => ?_) (fun hf => ?_)
  · exact e_vret (pc := 38) X hr hf (Nat.le_refl _) (Nat.le_refl _) dX7_push_38
  · refine r_aload_n (x := some 34) (pc := 18) X dX7_push_18 0 rfl ?_
    refine r_get (j := 1) (pc := 19) X ce_34 rfl inT7 (by decide) w_270 rfl dX7_push_19 ?_
    refine r_aload_n (x := some 34) (pc := 22) X dX7_push_22 0 rfl ?_
    refine r_get (j := 2) (pc := 23) X ce_34 rfl inT7 (by decide) w_271 rfl dX7_push_23 ?_
    refine r_lload_n (pc := 26) X dX7_push_26 1 rfl ?_
    refine b_last (pc := 27) X ce_38 (fun _ => ca_38 _ _) dX7_push_27 hf (fun j2 s3 hf => ?_)
    refine r_aload_n (x := some 34) (pc := 28) X dX7_push_28 0 rfl ?_
    refine r_dup (pc := 29) X dX7_push_29 rfl ?_
    refine r_get (j := 2) (pc := 30) X ce_34 rfl inT7 (by decide) w_271 rfl dX7_push_30 ?_
    refine r_iconst (v := 1) (pc := 33) X dX7_push_33 (by decide) ?_
    refine r_iadd (pc := 34) X dX7_push_34 ?_
    refine b_put (j := 2) (pc := 35) X ce_34 rfl inT7 tyX7 tyX7_ok nmX7 (by decide) w_271 rfl (tyX7_ok 2 (by decide)) rfl rfl (Nat.le_of_ble_eq_true rfl) (cp_2178 _) rfl rfl dX7_push_35 hf (fun s4 hf => ?_)
    exact e_vret (pc := 38) X hr hf (Nat.le_refl _) (Nat.le_refl _) dX7_push_38
/-! f_Runner_step -/
theorem dX7_step_0 : decode cX7_step 0 = .ok (.iload_n 2, 1) := by decide +kernel
theorem dX7_step_1 : decode cX7_step 1 = .ok (.ifCond .lt 9, 3) := by decide +kernel
theorem dX7_step_4 : decode cX7_step 4 = .ok (.iload_n 2, 1) := by decide +kernel
theorem dX7_step_5 : decode cX7_step 5 = .ok (.aload_n 1, 1) := by decide +kernel
theorem dX7_step_6 : decode cX7_step 6 = .ok (.arraylength, 1) := by decide +kernel
theorem dX7_step_7 : decode cX7_step 7 = .ok (.if_icmp .lt 6, 3) := by decide +kernel
theorem dX7_step_10 : decode cX7_step 10 = .ok (.aload_n 1, 1) := by decide +kernel
theorem dX7_step_11 : decode cX7_step 11 = .ok (.arraylength, 1) := by decide +kernel
theorem dX7_step_12 : decode cX7_step 12 = .ok (.ireturn, 1) := by decide +kernel
theorem dX7_step_13 : decode cX7_step 13 = .ok (.aload_n 1, 1) := by decide +kernel
theorem dX7_step_14 : decode cX7_step 14 = .ok (.iload_n 2, 1) := by decide +kernel
theorem dX7_step_15 : decode cX7_step 15 = .ok (.iaload, 1) := by decide +kernel
theorem dX7_step_16 : decode cX7_step 16 = .ok (.istore 5, 2) := by decide +kernel
theorem dX7_step_18 : decode cX7_step 18 = .ok (.iload 5, 2) := by decide +kernel
theorem dX7_step_20 : decode cX7_step 20 = .ok (.bipush 35, 2) := by decide +kernel
theorem dX7_step_22 : decode cX7_step 22 = .ok (.if_icmp .ne 29, 3) := by decide +kernel
theorem dX7_step_25 : decode cX7_step 25 = .ok (.aload_n 0, 1) := by decide +kernel
theorem dX7_step_26 : decode cX7_step 26 = .ok (.iload_n 2, 1) := by decide +kernel
theorem dX7_step_27 : decode cX7_step 27 = .ok (.iconst 1, 1) := by decide +kernel
theorem dX7_step_28 : decode cX7_step 28 = .ok (.iadd, 1) := by decide +kernel
theorem dX7_step_29 : decode cX7_step 29 = .ok (.aload_n 1, 1) := by decide +kernel
theorem dX7_step_30 : decode cX7_step 30 = .ok (.arraylength, 1) := by decide +kernel
theorem dX7_step_31 : decode cX7_step 31 = .ok (.if_icmp .ge 12, 3) := by decide +kernel
theorem dX7_step_34 : decode cX7_step 34 = .ok (.aload_n 1, 1) := by decide +kernel
theorem dX7_step_35 : decode cX7_step 35 = .ok (.iload_n 2, 1) := by decide +kernel
theorem dX7_step_36 : decode cX7_step 36 = .ok (.iconst 1, 1) := by decide +kernel
theorem dX7_step_37 : decode cX7_step 37 = .ok (.iadd, 1) := by decide +kernel
theorem dX7_step_38 : decode cX7_step 38 = .ok (.iaload, 1) := by decide +kernel
theorem dX7_step_39 : decode cX7_step 39 = .ok (.i2l, 1) := by decide +kernel
theorem dX7_step_40 : decode cX7_step 40 = .ok (.goto 4, 3) := by decide +kernel
theorem dX7_step_43 : decode cX7_step 43 = .ok (.lconst 0, 1) := by decide +kernel
theorem dX7_step_44 : decode cX7_step 44 = .ok (.invokevirtual 42, 3) := by decide +kernel
theorem dX7_step_47 : decode cX7_step 47 = .ok (.iload_n 2, 1) := by decide +kernel
theorem dX7_step_48 : decode cX7_step 48 = .ok (.iconst 2, 1) := by decide +kernel
theorem dX7_step_49 : decode cX7_step 49 = .ok (.iadd, 1) := by decide +kernel
theorem dX7_step_50 : decode cX7_step 50 = .ok (.ireturn, 1) := by decide +kernel
theorem dX7_step_51 : decode cX7_step 51 = .ok (.iload 5, 2) := by decide +kernel
theorem dX7_step_53 : decode cX7_step 53 = .ok (.invokestatic 46, 3) := by decide +kernel
theorem dX7_step_56 : decode cX7_step 56 = .ok (.ifCond .eq 19, 3) := by decide +kernel
theorem dX7_step_59 : decode cX7_step 59 = .ok (.aload_n 0, 1) := by decide +kernel
theorem dX7_step_60 : decode cX7_step 60 = .ok (.aload_n 3, 1) := by decide +kernel
theorem dX7_step_61 : decode cX7_step 61 = .ok (.iload 5, 2) := by decide +kernel
theorem dX7_step_63 : decode cX7_step 63 = .ok (.iload 4, 2) := by decide +kernel
theorem dX7_step_65 : decode cX7_step 65 = .ok (.invokevirtual 49, 3) := by decide +kernel
theorem dX7_step_68 : decode cX7_step 68 = .ok (.i2l, 1) := by decide +kernel
theorem dX7_step_69 : decode cX7_step 69 = .ok (.invokevirtual 42, 3) := by decide +kernel
theorem dX7_step_72 : decode cX7_step 72 = .ok (.goto 71, 3) := by decide +kernel
theorem dX7_step_75 : decode cX7_step 75 = .ok (.iload 5, 2) := by decide +kernel
theorem dX7_step_77 : decode cX7_step 77 = .ok (.bipush 126, 2) := by decide +kernel
theorem dX7_step_79 : decode cX7_step 79 = .ok (.if_icmp .ne 15, 3) := by decide +kernel
theorem dX7_step_82 : decode cX7_step 82 = .ok (.aload_n 0, 1) := by decide +kernel
theorem dX7_step_83 : decode cX7_step 83 = .ok (.aload_n 0, 1) := by decide +kernel
theorem dX7_step_84 : decode cX7_step 84 = .ok (.invokevirtual 38, 3) := by decide +kernel
theorem dX7_step_87 : decode cX7_step 87 = .ok (.lneg, 1) := by decide +kernel
theorem dX7_step_88 : decode cX7_step 88 = .ok (.invokevirtual 42, 3) := by decide +kernel
theorem dX7_step_91 : decode cX7_step 91 = .ok (.goto 52, 3) := by decide +kernel
theorem dX7_step_94 : decode cX7_step 94 = .ok (.iload 5, 2) := by decide +kernel
theorem dX7_step_96 : decode cX7_step 96 = .ok (.bipush 33, 2) := by decide +kernel
theorem dX7_step_98 : decode cX7_step 98 = .ok (.if_icmp .ne 24, 3) := by decide +kernel
theorem dX7_step_101 : decode cX7_step 101 = .ok (.aload_n 0, 1) := by decide +kernel
theorem dX7_step_102 : decode cX7_step 102 = .ok (.aload_n 0, 1) := by decide +kernel
theorem dX7_step_103 : decode cX7_step 103 = .ok (.invokevirtual 38, 3) := by decide +kernel
theorem dX7_step_106 : decode cX7_step 106 = .ok (.lconst 0, 1) := by decide +kernel
theorem dX7_step_107 : decode cX7_step 107 = .ok (.lcmp, 1) := by decide +kernel
theorem dX7_step_108 : decode cX7_step 108 = .ok (.ifCond .ne 7, 3) := by decide +kernel
theorem dX7_step_111 : decode cX7_step 111 = .ok (.lconst 1, 1) := by decide +kernel
theorem dX7_step_112 : decode cX7_step 112 = .ok (.goto 4, 3) := by decide +kernel
theorem dX7_step_115 : decode cX7_step 115 = .ok (.lconst 0, 1) := by decide +kernel
theorem dX7_step_116 : decode cX7_step 116 = .ok (.invokevirtual 42, 3) := by decide +kernel
theorem dX7_step_119 : decode cX7_step 119 = .ok (.goto 24, 3) := by decide +kernel
theorem dX7_step_122 : decode cX7_step 122 = .ok (.aload_n 0, 1) := by decide +kernel
theorem dX7_step_123 : decode cX7_step 123 = .ok (.invokevirtual 38, 3) := by decide +kernel
theorem dX7_step_126 : decode cX7_step 126 = .ok (.lstore 6, 2) := by decide +kernel
theorem dX7_step_128 : decode cX7_step 128 = .ok (.aload_n 0, 1) := by decide +kernel
theorem dX7_step_129 : decode cX7_step 129 = .ok (.iload 5, 2) := by decide +kernel
theorem dX7_step_131 : decode cX7_step 131 = .ok (.aload_n 0, 1) := by decide +kernel
theorem dX7_step_132 : decode cX7_step 132 = .ok (.invokevirtual 38, 3) := by decide +kernel
theorem dX7_step_135 : decode cX7_step 135 = .ok (.lload 6, 2) := by decide +kernel
theorem dX7_step_137 : decode cX7_step 137 = .ok (.invokestatic 55, 3) := by decide +kernel
theorem dX7_step_140 : decode cX7_step 140 = .ok (.invokevirtual 42, 3) := by decide +kernel
theorem dX7_step_143 : decode cX7_step 143 = .ok (.iload_n 2, 1) := by decide +kernel
theorem dX7_step_144 : decode cX7_step 144 = .ok (.iconst 1, 1) := by decide +kernel
theorem dX7_step_145 : decode cX7_step 145 = .ok (.iadd, 1) := by decide +kernel
theorem dX7_step_146 : decode cX7_step 146 = .ok (.ireturn, 1) := by decide +kernel
def f_Runner_step (F : Nat) (s : St) (p2 : Int32) (p4 : Int32) : Option (Int32 × St) :=
  if p2 < 0 then
    (some (80, s))
  else
    (if p2 < 80 then
      ((ix 80 p2).bind fun j1 => (if (gA s 27 j1) = 35 then
        (if 80 ≤ (p2 + 1) then
          ((f_Runner_push F s 0).bind fun x2 => (some ((p2 + 2), x2)))
        else
          ((ix 80 (p2 + 1)).bind fun j3 => ((f_Runner_push F s ((gA s 27 j3).toInt64)).bind fun x4 => (some ((p2 + 2), x4)))))
      else
        ((f_P_isField F s (gA s 27 j1)).bind fun x5 => (if x5.1 = 0 then
          (if (gA s 27 j1) = 126 then
            ((f_Runner_pull F x5.2).bind fun x6 => ((f_Runner_push F x6.2 (-x6.1)).bind fun x7 => (some ((p2 + 1), x7))))
          else
            (if (gA s 27 j1) = 33 then
              ((f_Runner_pull F x5.2).bind fun x8 => (if x8.1 = 0 then
                ((f_Runner_push F x8.2 1).bind fun x9 => (some ((p2 + 1), x9)))
              else
                ((f_Runner_push F x8.2 0).bind fun x10 => (some ((p2 + 1), x10)))))
            else
              ((f_Runner_pull F x5.2).bind fun x11 => ((f_Runner_pull F x11.2).bind fun x12 => ((f_P_combined F x12.2 (gA s 27 j1) x12.1 x11.1).bind fun x13 => ((f_Runner_push F x13.2 x13.1).bind fun x14 => (some ((p2 + 1), x14))))))))
        else
          ((f_Logs_fieldOf F x5.2 (gA s 27 j1) p4).bind fun x15 => ((f_Runner_push F x15.2 x15.1.toInt64).bind fun x16 => (some ((p2 + 1), x16))))))))
    else
      (some (80, s)))
set_option maxHeartbeats 1000000 in
theorem c_f_Runner_step {F : Nat} {s : St} {p2 : Int32} {p4 : Int32} {r : Int32} {s' : St} (hf : f_Runner_step F s p2 p4 = some (r, s')) : CC true yX7_step (Cond.code yX7_step cX7_step 8 (some .int)) 2 44 (fun B => [.ref (B + 34), .ref (B + 27), .int p2, .ref (B + 3), .int p4]) s (fun B => (some (.int r))) s' 0 0 := by
  refine CC.of (fun B => [(0, .ref (B + 34)), (1, .ref (B + 27)), (2, .int p2), (3, .ref (B + 3)), (4, .int p4)]) (by decide +kernel) (fun _ => rfl) (fun _ => (by simp [lg_sl, rfB_cat, catI, catL, catR])) (fun Γ D B X hr hin => ?_)
  have X : Cx Γ RX7 cX7_step 8 D B { frames := 2, cells := 0, slots := 0, locals := 44 } := X
  unfold f_Runner_step at hf
  refine r_iload_n (pc := 0) X dX7_step_0 2 rfl ?_
  refine b_if_lt (tgt := 10) (pc := 1) X dX7_step_1 (by decide) hf (fun hf => ?_) (fun hf => ?_)
  · refine r_aload_n (x := some 27) (pc := 10) X dX7_step_10 1 rfl ?_
    refine r_alen (t0 := 1) (v := 80) (pc := 11) X ce_27 rfl (by decide) dX7_step_11 ?_
    exact e_iret (pc := 12) X hr hf (Nat.le_refl _) (Nat.le_refl _) dX7_step_12
  · refine r_iload_n (pc := 4) X dX7_step_4 2 rfl ?_
    refine r_aload_n (x := some 27) (pc := 5) X dX7_step_5 1 rfl ?_
    refine r_alen (t0 := 1) (v := 80) (pc := 6) X ce_27 rfl (by decide) dX7_step_6 ?_
    refine b_icmp_lt (tgt := 13) (pc := 7) X dX7_step_7 (by decide) hf (fun hf => ?_) (fun hf => ?_)
    · refine r_aload_n (x := some 27) (pc := 13) X dX7_step_13 1 rfl ?_
      refine r_iload_n (pc := 14) X dX7_step_14 2 rfl ?_
      refine b_iald (pc := 15) X ce_27 dX7_step_15 hf (fun j1 hf => ?_)
      refine r_istore (pc := 16) (lv' := [(0, .ref (B + 34)), (1, .ref (B + 27)), (2, .int p2), (3, .ref (B + 3)), (4, .int p4), (5, .int (gA s 27 j1))]) X dX7_step_16 (by decide) [1, 2, 3, 4, 5, 0] rfl ?_
      refine r_iload (pc := 18) X dX7_step_18 5 rfl ?_
      refine r_bipush (v := 35) (pc := 20) X dX7_step_20 (by decide) ?_
      refine b_icmp_ne (tgt := 51) (pc := 22) X dX7_step_22 (by decide) hf (fun hf => ?_) (fun hf => ?_)
      · refine r_aload_n (x := some 34) (pc := 25) X dX7_step_25 0 rfl ?_
        refine r_iload_n (pc := 26) X dX7_step_26 2 rfl ?_
        refine r_iconst (v := 1) (pc := 27) X dX7_step_27 (by decide) ?_
        refine r_iadd (pc := 28) X dX7_step_28 ?_
        refine r_aload_n (x := some 27) (pc := 29) X dX7_step_29 1 rfl ?_
        refine r_alen (t0 := 1) (v := 80) (pc := 30) X ce_27 rfl (by decide) dX7_step_30 ?_
        refine b_icmp_ge (tgt := 43) (pc := 31) X dX7_step_31 (by decide) hf (fun hf => ?_) (fun hf => ?_)
        · refine r_lconst (v := 0) (pc := 43) X dX7_step_43 (by decide) ?_
          refine bnd hf (fun x2 h2 hf => ?_)
          refine r_callVv (As := [.long 0]) (st := []) (pc := 44) X (c_f_Runner_push h2) rfl w_956 w_958 w_33 w_45 w_959 hdV_X7_push (Rc.s rfl ce_34) (by decide) (by decide) (by decide) (Nat.le_of_ble_eq_true rfl) dX7_step_44 rfl ?_
          refine r_iload_n (pc := 47) X dX7_step_47 2 rfl ?_
          refine r_iconst (v := 2) (pc := 48) X dX7_step_48 (by decide) ?_
          refine r_iadd (pc := 49) X dX7_step_49 ?_
          exact e_iret (pc := 50) X hr hf (Nat.le_refl _) (Nat.le_refl _) dX7_step_50
        · refine r_aload_n (x := some 27) (pc := 34) X dX7_step_34 1 rfl ?_
          refine r_iload_n (pc := 35) X dX7_step_35 2 rfl ?_
          refine r_iconst (v := 1) (pc := 36) X dX7_step_36 (by decide) ?_
          refine r_iadd (pc := 37) X dX7_step_37 ?_
          refine b_iald (pc := 38) X ce_27 dX7_step_38 hf (fun j3 hf => ?_)
          refine r_i2l (pc := 39) X dX7_step_39 ?_
          refine r_goto (tgt := 44) (pc := 40) X dX7_step_40 (by decide) ?_
          refine bnd hf (fun x4 h4 hf => ?_)
          refine r_callVv (As := [.long ((gA s 27 j3).toInt64)]) (st := []) (pc := 44) X (c_f_Runner_push h4) rfl w_956 w_958 w_33 w_45 w_959 hdV_X7_push (Rc.s rfl ce_34) (by decide) (by decide) (by decide) (Nat.le_of_ble_eq_true rfl) dX7_step_44 rfl ?_
          refine r_iload_n (pc := 47) X dX7_step_47 2 rfl ?_
          refine r_iconst (v := 2) (pc := 48) X dX7_step_48 (by decide) ?_
          refine r_iadd (pc := 49) X dX7_step_49 ?_
          exact e_iret (pc := 50) X hr hf (Nat.le_refl _) (Nat.le_refl _) dX7_step_50
      · refine r_iload (pc := 51) X dX7_step_51 5 rfl ?_
        refine bnd hf (fun x5 h5 hf => ?_)
        refine r_callSNi (As := [.int (gA s 27 j1)]) (st := []) (pc := 53) X (c_f_P_isField h5) rfl wn_961 w_553 w_36 w_554 hdS_X10_isField (by decide) (by decide) (by decide) (Nat.le_of_ble_eq_true rfl) dX7_step_53 rfl ?_
        refine b_if_eq (tgt := 75) (pc := 56) X dX7_step_56 (by decide) hf (fun hf => ?_) (fun hf => ?_)
        · refine r_iload (pc := 75) X dX7_step_75 5 rfl ?_
          refine r_bipush (v := 126) (pc := 77) X dX7_step_77 (by decide) ?_
          refine b_icmp_ne (tgt := 94) (pc := 79) X dX7_step_79 (by decide) hf (fun hf => ?_) (fun hf => ?_)
          · refine r_aload_n (x := some 34) (pc := 82) X dX7_step_82 0 rfl ?_
            refine r_aload_n (x := some 34) (pc := 83) X dX7_step_83 0 rfl ?_
            refine bnd hf (fun x6 h6 hf => ?_)
            refine r_callVl (As := []) (st := [.ref (B + 34)]) (pc := 84) X (c_f_Runner_pull h6) rfl w_963 w_965 w_34 w_45 w_966 hdV_X7_pull (Rc.s rfl ce_34) (by decide) (by decide) (by decide) (Nat.le_of_ble_eq_true rfl) dX7_step_84 rfl ?_
            refine r_lneg (pc := 87) X dX7_step_87 ?_
            refine bnd hf (fun x7 h7 hf => ?_)
            refine r_callVv (As := [.long (-x6.1)]) (st := []) (pc := 88) X (c_f_Runner_push h7) rfl w_956 w_958 w_33 w_45 w_959 hdV_X7_push (Rc.s rfl ce_34) (by decide) (by decide) (by decide) (Nat.le_of_ble_eq_true rfl) dX7_step_88 rfl ?_
            refine r_goto (tgt := 143) (pc := 91) X dX7_step_91 (by decide) ?_
            refine r_iload_n (pc := 143) X dX7_step_143 2 rfl ?_
            refine r_iconst (v := 1) (pc := 144) X dX7_step_144 (by decide) ?_
            refine r_iadd (pc := 145) X dX7_step_145 ?_
            exact e_iret (pc := 146) X hr hf (Nat.le_refl _) (Nat.le_refl _) dX7_step_146
          · refine r_iload (pc := 94) X dX7_step_94 5 rfl ?_
            refine r_bipush (v := 33) (pc := 96) X dX7_step_96 (by decide) ?_
            refine b_icmp_ne (tgt := 122) (pc := 98) X dX7_step_98 (by decide) hf (fun hf => ?_) (fun hf => ?_)
            · refine r_aload_n (x := some 34) (pc := 101) X dX7_step_101 0 rfl ?_
              refine r_aload_n (x := some 34) (pc := 102) X dX7_step_102 0 rfl ?_
              refine bnd hf (fun x8 h8 hf => ?_)
              refine r_callVl (As := []) (st := [.ref (B + 34)]) (pc := 103) X (c_f_Runner_pull h8) rfl w_963 w_965 w_34 w_45 w_966 hdV_X7_pull (Rc.s rfl ce_34) (by decide) (by decide) (by decide) (Nat.le_of_ble_eq_true rfl) dX7_step_103 rfl ?_
              refine r_lconst (v := 0) (pc := 106) X dX7_step_106 (by decide) ?_
              refine b_lcmp_ne (tgt := 115) (pc := 107) X dX7_step_107 dX7_step_108 (by decide) hf (fun hf => ?_) (fun hf => ?_)
              · refine r_lconst (v := 1) (pc := 111) X dX7_step_111 (by decide) ?_
                refine r_goto (tgt := 116) (pc := 112) X dX7_step_112 (by decide) ?_
                refine bnd hf (fun x9 h9 hf => ?_)
                refine r_callVv (As := [.long 1]) (st := []) (pc := 116) X (c_f_Runner_push h9) rfl w_956 w_958 w_33 w_45 w_959 hdV_X7_push (Rc.s rfl ce_34) (by decide) (by decide) (by decide) (Nat.le_of_ble_eq_true rfl) dX7_step_116 rfl ?_
                refine r_goto (tgt := 143) (pc := 119) X dX7_step_119 (by decide) ?_
                refine r_iload_n (pc := 143) X dX7_step_143 2 rfl ?_
                refine r_iconst (v := 1) (pc := 144) X dX7_step_144 (by decide) ?_
                refine r_iadd (pc := 145) X dX7_step_145 ?_
                exact e_iret (pc := 146) X hr hf (Nat.le_refl _) (Nat.le_refl _) dX7_step_146
              · refine r_lconst (v := 0) (pc := 115) X dX7_step_115 (by decide) ?_
                refine bnd hf (fun x10 h10 hf => ?_)
                refine r_callVv (As := [.long 0]) (st := []) (pc := 116) X (c_f_Runner_push h10) rfl w_956 w_958 w_33 w_45 w_959 hdV_X7_push (Rc.s rfl ce_34) (by decide) (by decide) (by decide) (Nat.le_of_ble_eq_true rfl) dX7_step_116 rfl ?_
                refine r_goto (tgt := 143) (pc := 119) X dX7_step_119 (by decide) ?_
                refine r_iload_n (pc := 143) X dX7_step_143 2 rfl ?_
                refine r_iconst (v := 1) (pc := 144) X dX7_step_144 (by decide) ?_
                refine r_iadd (pc := 145) X dX7_step_145 ?_
                exact e_iret (pc := 146) X hr hf (Nat.le_refl _) (Nat.le_refl _) dX7_step_146
            · refine r_aload_n (x := some 34) (pc := 122) X dX7_step_122 0 rfl ?_
              refine bnd hf (fun x11 h11 hf => ?_)
              refine r_callVl (As := []) (st := []) (pc := 123) X (c_f_Runner_pull h11) rfl w_963 w_965 w_34 w_45 w_966 hdV_X7_pull (Rc.s rfl ce_34) (by decide) (by decide) (by decide) (Nat.le_of_ble_eq_true rfl) dX7_step_123 rfl ?_
              refine r_lstore (pc := 126) (lv' := [(0, .ref (B + 34)), (2, .int p2), (5, .int (gA s 27 j1)), (6, .long x11.1)]) X dX7_step_126 (by decide) [1, 3, 6, 0] rfl ?_
              refine r_aload_n (x := some 34) (pc := 128) X dX7_step_128 0 rfl ?_
              refine r_iload (pc := 129) X dX7_step_129 2 rfl ?_
              refine r_aload_n (x := some 34) (pc := 131) X dX7_step_131 0 rfl ?_
              refine bnd hf (fun x12 h12 hf => ?_)
              refine r_callVl (As := []) (st := [.int (gA s 27 j1), .ref (B + 34)]) (pc := 132) X (c_f_Runner_pull h12) rfl w_963 w_965 w_34 w_45 w_966 hdV_X7_pull (Rc.s rfl ce_34) (by decide) (by decide) (by decide) (Nat.le_of_ble_eq_true rfl) dX7_step_132 rfl ?_
              refine r_lload (pc := 135) X dX7_step_135 3 rfl ?_
              refine bnd hf (fun x13 h13 hf => ?_)
              refine r_callSNl (As := [.int (gA s 27 j1), .long x12.1, .long x11.1]) (st := [.ref (B + 34)]) (pc := 137) X (c_f_P_combined h13) rfl wn_967 w_585 w_36 w_586 hdS_X10_combined (by decide) (by decide) (by decide) (Nat.le_of_ble_eq_true rfl) dX7_step_137 rfl ?_
              refine bnd hf (fun x14 h14 hf => ?_)
              refine r_callVv (As := [.long x13.1]) (st := []) (pc := 140) X (c_f_Runner_push h14) rfl w_956 w_958 w_33 w_45 w_959 hdV_X7_push (Rc.s rfl ce_34) (by decide) (by decide) (by decide) (Nat.le_of_ble_eq_true rfl) dX7_step_140 rfl ?_
              refine r_iload_n (pc := 143) X dX7_step_143 1 rfl ?_
              refine r_iconst (v := 1) (pc := 144) X dX7_step_144 (by decide) ?_
              refine r_iadd (pc := 145) X dX7_step_145 ?_
              exact e_iret (pc := 146) X hr hf (Nat.le_refl _) (Nat.le_refl _) dX7_step_146
        · refine r_aload_n (x := some 34) (pc := 59) X dX7_step_59 0 rfl ?_
          refine r_aload_n (x := some 3) (pc := 60) X dX7_step_60 3 rfl ?_
          refine r_iload (pc := 61) X dX7_step_61 5 rfl ?_
          refine r_iload (pc := 63) X dX7_step_63 4 rfl ?_
          refine bnd hf (fun x15 h15 hf => ?_)
          refine r_callVi (As := [.int (gA s 27 j1), .int p4]) (st := [.ref (B + 34)]) (pc := 65) X (c_f_Logs_fieldOf h15) rfl w_962 w_556 w_557 w_37 w_558 hdV_X2_fieldOf (Rc.s rfl ce_3) (by decide) (by decide) (by decide) (Nat.le_of_ble_eq_true rfl) dX7_step_65 rfl ?_
          refine r_i2l (pc := 68) X dX7_step_68 ?_
          refine bnd hf (fun x16 h16 hf => ?_)
          refine r_callVv (As := [.long x15.1.toInt64]) (st := []) (pc := 69) X (c_f_Runner_push h16) rfl w_956 w_958 w_33 w_45 w_959 hdV_X7_push (Rc.s rfl ce_34) (by decide) (by decide) (by decide) (Nat.le_of_ble_eq_true rfl) dX7_step_69 rfl ?_
          refine r_goto (tgt := 143) (pc := 72) X dX7_step_72 (by decide) ?_
          refine r_iload_n (pc := 143) X dX7_step_143 2 rfl ?_
          refine r_iconst (v := 1) (pc := 144) X dX7_step_144 (by decide) ?_
          refine r_iadd (pc := 145) X dX7_step_145 ?_
          exact e_iret (pc := 146) X hr hf (Nat.le_refl _) (Nat.le_refl _) dX7_step_146
    · refine r_aload_n (x := some 27) (pc := 10) X dX7_step_10 1 rfl ?_
      refine r_alen (t0 := 1) (v := 80) (pc := 11) X ce_27 rfl (by decide) dX7_step_11 ?_
      exact e_iret (pc := 12) X hr hf (Nat.le_refl _) (Nat.le_refl _) dX7_step_12
/-! f_Tally_clearr -/
theorem dX8_clear_0 : decode cX8_clear 0 = .ok (.iconst 0, 1) := by decide +kernel
theorem dX8_clear_1 : decode cX8_clear 1 = .ok (.istore_n 1, 1) := by decide +kernel
theorem dX8_clear_2 : decode cX8_clear 2 = .ok (.iload_n 1, 1) := by decide +kernel
theorem dX8_clear_3 : decode cX8_clear 3 = .ok (.aload_n 0, 1) := by decide +kernel
theorem dX8_clear_4 : decode cX8_clear 4 = .ok (.getfield 15, 3) := by decide +kernel
theorem dX8_clear_7 : decode cX8_clear 7 = .ok (.if_icmp .ge 49, 3) := by decide +kernel
theorem dX8_clear_10 : decode cX8_clear 10 = .ok (.iload_n 1, 1) := by decide +kernel
theorem dX8_clear_11 : decode cX8_clear 11 = .ok (.aload_n 0, 1) := by decide +kernel
theorem dX8_clear_12 : decode cX8_clear 12 = .ok (.getfield 9, 3) := by decide +kernel
theorem dX8_clear_15 : decode cX8_clear 15 = .ok (.arraylength, 1) := by decide +kernel
theorem dX8_clear_16 : decode cX8_clear 16 = .ok (.if_icmp .ge 40, 3) := by decide +kernel
theorem dX8_clear_19 : decode cX8_clear 19 = .ok (.aload_n 0, 1) := by decide +kernel
theorem dX8_clear_20 : decode cX8_clear 20 = .ok (.getfield 9, 3) := by decide +kernel
theorem dX8_clear_23 : decode cX8_clear 23 = .ok (.iload_n 1, 1) := by decide +kernel
theorem dX8_clear_24 : decode cX8_clear 24 = .ok (.iaload, 1) := by decide +kernel
theorem dX8_clear_25 : decode cX8_clear 25 = .ok (.sipush 1000, 3) := by decide +kernel
theorem dX8_clear_28 : decode cX8_clear 28 = .ok (.iadd, 1) := by decide +kernel
theorem dX8_clear_29 : decode cX8_clear 29 = .ok (.istore_n 2, 1) := by decide +kernel
theorem dX8_clear_30 : decode cX8_clear 30 = .ok (.iload_n 2, 1) := by decide +kernel
theorem dX8_clear_31 : decode cX8_clear 31 = .ok (.ifCond .lt 19, 3) := by decide +kernel
theorem dX8_clear_34 : decode cX8_clear 34 = .ok (.iload_n 2, 1) := by decide +kernel
theorem dX8_clear_35 : decode cX8_clear 35 = .ok (.aload_n 0, 1) := by decide +kernel
theorem dX8_clear_36 : decode cX8_clear 36 = .ok (.getfield 32, 3) := by decide +kernel
theorem dX8_clear_39 : decode cX8_clear 39 = .ok (.arraylength, 1) := by decide +kernel
theorem dX8_clear_40 : decode cX8_clear 40 = .ok (.if_icmp .ge 10, 3) := by decide +kernel
theorem dX8_clear_43 : decode cX8_clear 43 = .ok (.aload_n 0, 1) := by decide +kernel
theorem dX8_clear_44 : decode cX8_clear 44 = .ok (.getfield 32, 3) := by decide +kernel
theorem dX8_clear_47 : decode cX8_clear 47 = .ok (.iload_n 2, 1) := by decide +kernel
theorem dX8_clear_48 : decode cX8_clear 48 = .ok (.iconst 0, 1) := by decide +kernel
theorem dX8_clear_49 : decode cX8_clear 49 = .ok (.iastore, 1) := by decide +kernel
theorem dX8_clear_50 : decode cX8_clear 50 = .ok (.iinc 1 1, 3) := by decide +kernel
theorem dX8_clear_53 : decode cX8_clear 53 = .ok (.goto (-51), 3) := by decide +kernel
theorem dX8_clear_56 : decode cX8_clear 56 = .ok (.aload_n 0, 1) := by decide +kernel
theorem dX8_clear_57 : decode cX8_clear 57 = .ok (.iconst 0, 1) := by decide +kernel
theorem dX8_clear_58 : decode cX8_clear 58 = .ok (.putfield 15, 3) := by decide +kernel
theorem dX8_clear_61 : decode cX8_clear 61 = .ok (.aload_n 0, 1) := by decide +kernel
theorem dX8_clear_62 : decode cX8_clear 62 = .ok (.lconst 0, 1) := by decide +kernel
theorem dX8_clear_63 : decode cX8_clear 63 = .ok (.putfield 19, 3) := by decide +kernel
theorem dX8_clear_66 : decode cX8_clear 66 = .ok (.aload_n 0, 1) := by decide +kernel
theorem dX8_clear_67 : decode cX8_clear 67 = .ok (.iconst 0, 1) := by decide +kernel
theorem dX8_clear_68 : decode cX8_clear 68 = .ok (.putfield 23, 3) := by decide +kernel
theorem dX8_clear_71 : decode cX8_clear 71 = .ok (.aload_n 0, 1) := by decide +kernel
theorem dX8_clear_72 : decode cX8_clear 72 = .ok (.iconst 0, 1) := by decide +kernel
theorem dX8_clear_73 : decode cX8_clear 73 = .ok (.putfield 26, 3) := by decide +kernel
theorem dX8_clear_76 : decode cX8_clear 76 = .ok (.aload_n 0, 1) := by decide +kernel
theorem dX8_clear_77 : decode cX8_clear 77 = .ok (.iconst 0, 1) := by decide +kernel
theorem dX8_clear_78 : decode cX8_clear 78 = .ok (.putfield 29, 3) := by decide +kernel
theorem dX8_clear_81 : decode cX8_clear 81 = .ok (.return_, 1) := by decide +kernel
def f_Tally_clearr_b56 (F : Nat) (s : St)  : Option (St) :=
  lt (sI s 2241 0) fun s1 => (lt (sL s1 2242 0) fun s2 => (lt (sI s2 2243 0) fun s3 => (lt (sI s3 2244 0) fun s4 => (lt (sI s4 2245 0) fun s5 => (some s5)))))
def f_Tally_clearr_b2 (F : Nat) : Nat → St → Int32 → Option (St)
  | 0, _, _ => none
  | n + 1, s, l1 =>
    if (gI s 2241) ≤ l1 then
      (f_Tally_clearr_b56 F s)
    else
      (if 100 ≤ l1 then
        (f_Tally_clearr_b56 F s)
      else
        ((ix 100 l1).bind fun j6 => (if ((gA s 36 j6) + 1000) < 0 then
          (f_Tally_clearr_b2 F n s (l1 + 1))
        else
          (if 2001 ≤ ((gA s 36 j6) + 1000) then
            (f_Tally_clearr_b2 F n s (l1 + 1))
          else
            ((ix 2001 ((gA s 36 j6) + 1000)).bind fun j7 => (lt (sA s 37 j7 0) fun s8 => (f_Tally_clearr_b2 F n s8 (l1 + 1))))))))
def f_Tally_clearr (F : Nat) (s : St)  : Option (St) :=
  f_Tally_clearr_b2 F F s 0
set_option maxHeartbeats 1000000 in
theorem c_f_Tally_clearr_b56 {F : Nat} {Γ : Ga} {D : DD} {B : Nat} {s' : St} (X : Cx Γ RX8 cX8_clear 3 D B { frames := 0, cells := 0, slots := 0, locals := 0 }) (hr : (Gme Γ).sig.returnType = none) {s : St}  (hf : f_Tally_clearr_b56 F s  = some s') : V Γ D B true 3 (QM Γ D B true s' none 0 0) 0 0 s 56 [(0, .ref (B + 35))] [] := by
  unfold f_Tally_clearr_b56 at hf
  refine r_aload_n (x := some 35) (pc := 56) X dX8_clear_56 0 rfl ?_
  refine r_iconst (v := 0) (pc := 57) X dX8_clear_57 (by decide) ?_
  refine b_put (j := 1) (pc := 58) X ce_35 rfl inT8 tyX8 tyX8_ok nmX8 (by decide) w_236 rfl (tyX8_ok 1 (by decide)) rfl rfl (Nat.le_of_ble_eq_true rfl) (cp_2241 _) rfl rfl dX8_clear_58 hf (fun s1 hf => ?_)
  refine r_aload_n (x := some 35) (pc := 61) X dX8_clear_61 0 rfl ?_
  refine r_lconst (v := 0) (pc := 62) X dX8_clear_62 (by decide) ?_
  refine b_put (j := 2) (pc := 63) X ce_35 rfl inT8 tyX8 tyX8_ok nmX8 (by decide) w_237 rfl (tyX8_ok 2 (by decide)) rfl rfl (Nat.le_of_ble_eq_true rfl) (cp_2242 _) rfl rfl dX8_clear_63 hf (fun s2 hf => ?_)
  refine r_aload_n (x := some 35) (pc := 66) X dX8_clear_66 0 rfl ?_
  refine r_iconst (v := 0) (pc := 67) X dX8_clear_67 (by decide) ?_
  refine b_put (j := 3) (pc := 68) X ce_35 rfl inT8 tyX8 tyX8_ok nmX8 (by decide) w_238 rfl (tyX8_ok 3 (by decide)) rfl rfl (Nat.le_of_ble_eq_true rfl) (cp_2243 _) rfl rfl dX8_clear_68 hf (fun s3 hf => ?_)
  refine r_aload_n (x := some 35) (pc := 71) X dX8_clear_71 0 rfl ?_
  refine r_iconst (v := 0) (pc := 72) X dX8_clear_72 (by decide) ?_
  refine b_put (j := 4) (pc := 73) X ce_35 rfl inT8 tyX8 tyX8_ok nmX8 (by decide) w_239 rfl (tyX8_ok 4 (by decide)) rfl rfl (Nat.le_of_ble_eq_true rfl) (cp_2244 _) rfl rfl dX8_clear_73 hf (fun s4 hf => ?_)
  refine r_aload_n (x := some 35) (pc := 76) X dX8_clear_76 0 rfl ?_
  refine r_iconst (v := 0) (pc := 77) X dX8_clear_77 (by decide) ?_
  refine b_put (j := 5) (pc := 78) X ce_35 rfl inT8 tyX8 tyX8_ok nmX8 (by decide) w_240 rfl (tyX8_ok 5 (by decide)) rfl rfl (Nat.le_of_ble_eq_true rfl) (cp_2245 _) rfl rfl dX8_clear_78 hf (fun s5 hf => ?_)
  exact e_vret (pc := 81) X hr hf (Nat.le_refl _) (Nat.le_refl _) dX8_clear_81
set_option maxHeartbeats 1000000 in
theorem c_f_Tally_clearr_b2 {F : Nat} {Γ : Ga} {D : DD} {B : Nat} {s' : St} (X : Cx Γ RX8 cX8_clear 3 D B { frames := 0, cells := 0, slots := 0, locals := 0 }) (hr : (Gme Γ).sig.returnType = none) : ∀ (n : Nat) {s : St} {l1 : Int32}, f_Tally_clearr_b2 F n s l1 = some s' → V Γ D B true 3 (QM Γ D B true s' none 0 0) 0 0 s 2 [(0, .ref (B + 35)), (1, .int l1)] [] := by
  intro n
  induction n with
  | zero => intro s l1 hf; rw [f_Tally_clearr_b2] at hf; cases hf
  | succ n ih =>
    intro s l1 hf
    rw [f_Tally_clearr_b2] at hf
    refine r_iload_n (pc := 2) X dX8_clear_2 1 rfl ?_
    refine r_aload_n (x := some 35) (pc := 3) X dX8_clear_3 0 rfl ?_
    refine r_get (j := 1) (pc := 4) X ce_35 rfl inT8 (by decide) w_236 rfl dX8_clear_4 ?_
    refine b_icmp_ge (tgt := 56) (pc := 7) X dX8_clear_7 (by decide) hf (fun hf => ?_) (fun hf => ?_)
    · refine r_forget (lv' := [(0, .ref (B + 35))]) [0] rfl ?_
      exact c_f_Tally_clearr_b56 X hr hf
    · refine r_iload_n (pc := 10) X dX8_clear_10 1 rfl ?_
      refine r_aload_n (x := some 35) (pc := 11) X dX8_clear_11 0 rfl ?_
      refine r_get (j := 0) (pc := 12) X ce_35 rfl inT8 (by decide) w_235 rfl dX8_clear_12 ?_
      refine r_alen (t0 := 1) (v := 100) (pc := 15) X ce_36 rfl (by decide) dX8_clear_15 ?_
      refine b_icmp_ge (tgt := 56) (pc := 16) X dX8_clear_16 (by decide) hf (fun hf => ?_) (fun hf => ?_)
      · refine r_forget (lv' := [(0, .ref (B + 35))]) [0] rfl ?_
        exact c_f_Tally_clearr_b56 X hr hf
      · refine r_aload_n (x := some 35) (pc := 19) X dX8_clear_19 0 rfl ?_
        refine r_get (j := 0) (pc := 20) X ce_35 rfl inT8 (by decide) w_235 rfl dX8_clear_20 ?_
        refine r_iload_n (pc := 23) X dX8_clear_23 1 rfl ?_
        refine b_iald (pc := 24) X ce_36 dX8_clear_24 hf (fun j6 hf => ?_)
        refine r_sipush (v := 1000) (pc := 25) X dX8_clear_25 (by decide) ?_
        refine r_iadd (pc := 28) X dX8_clear_28 ?_
        refine r_istore_n (pc := 29) (lv' := [(0, .ref (B + 35)), (1, .int l1), (2, .int ((gA s 36 j6) + 1000))]) X dX8_clear_29 (by decide) [1, 2, 0] rfl ?_
        refine r_iload_n (pc := 30) X dX8_clear_30 2 rfl ?_
        refine b_if_lt (tgt := 50) (pc := 31) X dX8_clear_31 (by decide) hf (fun hf => ?_) (fun hf => ?_)
        · refine r_iinc (v := l1 + 1) (lv' := [(0, .ref (B + 35)), (1, .int (l1 + 1))]) (pc := 50) X dX8_clear_50 1 rfl rfl (by decide) [1, 0] rfl ?_
          refine r_goto (tgt := 2) (pc := 53) X dX8_clear_53 (by decide) ?_
          exact ih hf
        · refine r_iload_n (pc := 34) X dX8_clear_34 2 rfl ?_
          refine r_aload_n (x := some 35) (pc := 35) X dX8_clear_35 0 rfl ?_
          refine r_get (j := 6) (pc := 36) X ce_35 rfl inT8 (by decide) w_241 rfl dX8_clear_36 ?_
          refine r_alen (t0 := 1) (v := 2001) (pc := 39) X ce_37 rfl (by decide) dX8_clear_39 ?_
          refine b_icmp_ge (tgt := 50) (pc := 40) X dX8_clear_40 (by decide) hf (fun hf => ?_) (fun hf => ?_)
          · refine r_iinc (v := l1 + 1) (lv' := [(0, .ref (B + 35)), (1, .int (l1 + 1))]) (pc := 50) X dX8_clear_50 1 rfl rfl (by decide) [1, 0] rfl ?_
            refine r_goto (tgt := 2) (pc := 53) X dX8_clear_53 (by decide) ?_
            exact ih hf
          · refine r_aload_n (x := some 35) (pc := 43) X dX8_clear_43 0 rfl ?_
            refine r_get (j := 6) (pc := 44) X ce_35 rfl inT8 (by decide) w_241 rfl dX8_clear_44 ?_
            refine r_iload_n (pc := 47) X dX8_clear_47 2 rfl ?_
            refine r_iconst (v := 0) (pc := 48) X dX8_clear_48 (by decide) ?_
            refine b_iast (pc := 49) X ce_37 (fun _ => ca_37 _ _) dX8_clear_49 hf (fun j7 s8 hf => ?_)
            refine r_iinc (v := l1 + 1) (lv' := [(0, .ref (B + 35)), (1, .int (l1 + 1))]) (pc := 50) X dX8_clear_50 1 rfl rfl (by decide) [1, 0] rfl ?_
            refine r_goto (tgt := 2) (pc := 53) X dX8_clear_53 (by decide) ?_
            exact ih hf
set_option maxHeartbeats 1000000 in
theorem c_f_Tally_clearr {F : Nat} {s : St}  {s' : St} (hf : f_Tally_clearr F s  = some s') : CC true yX8_clear (Cond.code yX8_clear cX8_clear 3 none) 0 0 (fun B => [.ref (B + 35)]) s (fun B => none) s' 0 0 := by
  refine CC.of (fun B => [(0, .ref (B + 35))]) (by decide +kernel) (fun _ => rfl) (fun _ => (by simp [lg_sl, rfB_cat, catI, catL, catR])) (fun Γ D B X hr hin => ?_)
  have X : Cx Γ RX8 cX8_clear 3 D B { frames := 0, cells := 0, slots := 0, locals := 0 } := X
  unfold f_Tally_clearr at hf
  refine r_iconst (v := 0) (pc := 0) X dX8_clear_0 (by decide) ?_
  refine r_istore_n (pc := 1) (lv' := [(0, .ref (B + 35)), (1, .int 0)]) X dX8_clear_1 (by decide) [1, 0] rfl ?_
  exact c_f_Tally_clearr_b2 X hr _ hf
/-! f_Tally_mostOftenr -/
theorem dX8_mostOften_0 : decode cX8_mostOften 0 = .ok (.iconst 0, 1) := by decide +kernel
theorem dX8_mostOften_1 : decode cX8_mostOften 1 = .ok (.istore_n 1, 1) := by decide +kernel
theorem dX8_mostOften_2 : decode cX8_mostOften 2 = .ok (.lconst 0, 1) := by decide +kernel
theorem dX8_mostOften_3 : decode cX8_mostOften 3 = .ok (.lstore_n 2, 1) := by decide +kernel
theorem dX8_mostOften_4 : decode cX8_mostOften 4 = .ok (.iconst 0, 1) := by decide +kernel
theorem dX8_mostOften_5 : decode cX8_mostOften 5 = .ok (.istore 4, 2) := by decide +kernel
theorem dX8_mostOften_7 : decode cX8_mostOften 7 = .ok (.iload 4, 2) := by decide +kernel
theorem dX8_mostOften_9 : decode cX8_mostOften 9 = .ok (.aload_n 0, 1) := by decide +kernel
theorem dX8_mostOften_10 : decode cX8_mostOften 10 = .ok (.getfield 15, 3) := by decide +kernel
theorem dX8_mostOften_13 : decode cX8_mostOften 13 = .ok (.if_icmp .ge 75, 3) := by decide +kernel
theorem dX8_mostOften_16 : decode cX8_mostOften 16 = .ok (.iload 4, 2) := by decide +kernel
theorem dX8_mostOften_18 : decode cX8_mostOften 18 = .ok (.aload_n 0, 1) := by decide +kernel
theorem dX8_mostOften_19 : decode cX8_mostOften 19 = .ok (.getfield 9, 3) := by decide +kernel
theorem dX8_mostOften_22 : decode cX8_mostOften 22 = .ok (.arraylength, 1) := by decide +kernel
theorem dX8_mostOften_23 : decode cX8_mostOften 23 = .ok (.if_icmp .ge 65, 3) := by decide +kernel
theorem dX8_mostOften_26 : decode cX8_mostOften 26 = .ok (.aload_n 0, 1) := by decide +kernel
theorem dX8_mostOften_27 : decode cX8_mostOften 27 = .ok (.getfield 9, 3) := by decide +kernel
theorem dX8_mostOften_30 : decode cX8_mostOften 30 = .ok (.iload 4, 2) := by decide +kernel
theorem dX8_mostOften_32 : decode cX8_mostOften 32 = .ok (.iaload, 1) := by decide +kernel
theorem dX8_mostOften_33 : decode cX8_mostOften 33 = .ok (.sipush 1000, 3) := by decide +kernel
theorem dX8_mostOften_36 : decode cX8_mostOften 36 = .ok (.iadd, 1) := by decide +kernel
theorem dX8_mostOften_37 : decode cX8_mostOften 37 = .ok (.istore 5, 2) := by decide +kernel
theorem dX8_mostOften_39 : decode cX8_mostOften 39 = .ok (.iload 5, 2) := by decide +kernel
theorem dX8_mostOften_41 : decode cX8_mostOften 41 = .ok (.ifCond .lt 41, 3) := by decide +kernel
theorem dX8_mostOften_44 : decode cX8_mostOften 44 = .ok (.iload 5, 2) := by decide +kernel
theorem dX8_mostOften_46 : decode cX8_mostOften 46 = .ok (.aload_n 0, 1) := by decide +kernel
theorem dX8_mostOften_47 : decode cX8_mostOften 47 = .ok (.getfield 32, 3) := by decide +kernel
theorem dX8_mostOften_50 : decode cX8_mostOften 50 = .ok (.arraylength, 1) := by decide +kernel
theorem dX8_mostOften_51 : decode cX8_mostOften 51 = .ok (.if_icmp .ge 31, 3) := by decide +kernel
theorem dX8_mostOften_54 : decode cX8_mostOften 54 = .ok (.aload_n 0, 1) := by decide +kernel
theorem dX8_mostOften_55 : decode cX8_mostOften 55 = .ok (.getfield 32, 3) := by decide +kernel
theorem dX8_mostOften_58 : decode cX8_mostOften 58 = .ok (.iload 5, 2) := by decide +kernel
theorem dX8_mostOften_60 : decode cX8_mostOften 60 = .ok (.iaload, 1) := by decide +kernel
theorem dX8_mostOften_61 : decode cX8_mostOften 61 = .ok (.iload_n 1, 1) := by decide +kernel
theorem dX8_mostOften_62 : decode cX8_mostOften 62 = .ok (.if_icmp .le 20, 3) := by decide +kernel
theorem dX8_mostOften_65 : decode cX8_mostOften 65 = .ok (.aload_n 0, 1) := by decide +kernel
theorem dX8_mostOften_66 : decode cX8_mostOften 66 = .ok (.getfield 32, 3) := by decide +kernel
theorem dX8_mostOften_69 : decode cX8_mostOften 69 = .ok (.iload 5, 2) := by decide +kernel
theorem dX8_mostOften_71 : decode cX8_mostOften 71 = .ok (.iaload, 1) := by decide +kernel
theorem dX8_mostOften_72 : decode cX8_mostOften 72 = .ok (.istore_n 1, 1) := by decide +kernel
theorem dX8_mostOften_73 : decode cX8_mostOften 73 = .ok (.aload_n 0, 1) := by decide +kernel
theorem dX8_mostOften_74 : decode cX8_mostOften 74 = .ok (.getfield 9, 3) := by decide +kernel
theorem dX8_mostOften_77 : decode cX8_mostOften 77 = .ok (.iload 4, 2) := by decide +kernel
theorem dX8_mostOften_79 : decode cX8_mostOften 79 = .ok (.iaload, 1) := by decide +kernel
theorem dX8_mostOften_80 : decode cX8_mostOften 80 = .ok (.i2l, 1) := by decide +kernel
theorem dX8_mostOften_81 : decode cX8_mostOften 81 = .ok (.lstore_n 2, 1) := by decide +kernel
theorem dX8_mostOften_82 : decode cX8_mostOften 82 = .ok (.iinc 4 1, 3) := by decide +kernel
theorem dX8_mostOften_85 : decode cX8_mostOften 85 = .ok (.goto (-78), 3) := by decide +kernel
theorem dX8_mostOften_88 : decode cX8_mostOften 88 = .ok (.lload_n 2, 1) := by decide +kernel
theorem dX8_mostOften_89 : decode cX8_mostOften 89 = .ok (.lreturn, 1) := by decide +kernel
def f_Tally_mostOftenr_b7 (F : Nat) : Nat → St → Int32 → Int64 → Int32 → Option (Int64 × St)
  | 0, _, _, _, _ => none
  | n + 1, s, l1, l2, l4 =>
    if (gI s 2241) ≤ l4 then
      (some (l2, s))
    else
      (if 100 ≤ l4 then
        (some (l2, s))
      else
        ((ix 100 l4).bind fun j1 => (if ((gA s 36 j1) + 1000) < 0 then
          (f_Tally_mostOftenr_b7 F n s l1 l2 (l4 + 1))
        else
          (if 2001 ≤ ((gA s 36 j1) + 1000) then
            (f_Tally_mostOftenr_b7 F n s l1 l2 (l4 + 1))
          else
            ((ix 2001 ((gA s 36 j1) + 1000)).bind fun j2 => (if (gA s 37 j2) ≤ l1 then
              (f_Tally_mostOftenr_b7 F n s l1 l2 (l4 + 1))
            else
              ((ix 2001 ((gA s 36 j1) + 1000)).bind fun j3 => ((ix 100 l4).bind fun j4 => (f_Tally_mostOftenr_b7 F n s (gA s 37 j3) ((gA s 36 j4).toInt64) (l4 + 1))))))))))
def f_Tally_mostOftenr (F : Nat) (s : St)  : Option (Int64 × St) :=
  f_Tally_mostOftenr_b7 F F s 0 0 0
set_option maxHeartbeats 1000000 in
theorem c_f_Tally_mostOftenr_b7 {F : Nat} {Γ : Ga} {D : DD} {B : Nat} {r : Int64} {s' : St} (X : Cx Γ RX8 cX8_mostOften 6 D B { frames := 0, cells := 0, slots := 0, locals := 0 }) (hr : (Gme Γ).sig.returnType = (some .long)) : ∀ (n : Nat) {s : St} {l1 : Int32} {l2 : Int64} {l4 : Int32}, f_Tally_mostOftenr_b7 F n s l1 l2 l4 = some (r, s') → V Γ D B true 6 (QM Γ D B true s' (some (.long r)) 0 0) 0 0 s 7 [(0, .ref (B + 35)), (1, .int l1), (2, .long l2), (4, .int l4)] [] := by
  intro n
  induction n with
  | zero => intro s l1 l2 l4 hf; rw [f_Tally_mostOftenr_b7] at hf; cases hf
  | succ n ih =>
    intro s l1 l2 l4 hf
    rw [f_Tally_mostOftenr_b7] at hf
    refine r_iload (pc := 7) X dX8_mostOften_7 3 rfl ?_
    refine r_aload_n (x := some 35) (pc := 9) X dX8_mostOften_9 0 rfl ?_
    refine r_get (j := 1) (pc := 10) X ce_35 rfl inT8 (by decide) w_236 rfl dX8_mostOften_10 ?_
    refine b_icmp_ge (tgt := 88) (pc := 13) X dX8_mostOften_13 (by decide) hf (fun hf => ?_) (fun hf => ?_)
    · refine r_lload_n (pc := 88) X dX8_mostOften_88 2 rfl ?_
      exact e_lret (pc := 89) X hr hf (Nat.le_refl _) (Nat.le_refl _) dX8_mostOften_89
    · refine r_iload (pc := 16) X dX8_mostOften_16 3 rfl ?_
      refine r_aload_n (x := some 35) (pc := 18) X dX8_mostOften_18 0 rfl ?_
      refine r_get (j := 0) (pc := 19) X ce_35 rfl inT8 (by decide) w_235 rfl dX8_mostOften_19 ?_
      refine r_alen (t0 := 1) (v := 100) (pc := 22) X ce_36 rfl (by decide) dX8_mostOften_22 ?_
      refine b_icmp_ge (tgt := 88) (pc := 23) X dX8_mostOften_23 (by decide) hf (fun hf => ?_) (fun hf => ?_)
      · refine r_lload_n (pc := 88) X dX8_mostOften_88 2 rfl ?_
        exact e_lret (pc := 89) X hr hf (Nat.le_refl _) (Nat.le_refl _) dX8_mostOften_89
      · refine r_aload_n (x := some 35) (pc := 26) X dX8_mostOften_26 0 rfl ?_
        refine r_get (j := 0) (pc := 27) X ce_35 rfl inT8 (by decide) w_235 rfl dX8_mostOften_27 ?_
        refine r_iload (pc := 30) X dX8_mostOften_30 3 rfl ?_
        refine b_iald (pc := 32) X ce_36 dX8_mostOften_32 hf (fun j1 hf => ?_)
        refine r_sipush (v := 1000) (pc := 33) X dX8_mostOften_33 (by decide) ?_
        refine r_iadd (pc := 36) X dX8_mostOften_36 ?_
        refine r_istore (pc := 37) (lv' := [(0, .ref (B + 35)), (1, .int l1), (2, .long l2), (4, .int l4), (5, .int ((gA s 36 j1) + 1000))]) X dX8_mostOften_37 (by decide) [1, 2, 3, 4, 0] rfl ?_
        refine r_iload (pc := 39) X dX8_mostOften_39 4 rfl ?_
        refine b_if_lt (tgt := 82) (pc := 41) X dX8_mostOften_41 (by decide) hf (fun hf => ?_) (fun hf => ?_)
        · refine r_iinc (v := l4 + 1) (lv' := [(0, .ref (B + 35)), (1, .int l1), (2, .long l2), (4, .int (l4 + 1))]) (pc := 82) X dX8_mostOften_82 3 rfl rfl (by decide) [1, 2, 3, 0] rfl ?_
          refine r_goto (tgt := 7) (pc := 85) X dX8_mostOften_85 (by decide) ?_
          exact ih hf
        · refine r_iload (pc := 44) X dX8_mostOften_44 4 rfl ?_
          refine r_aload_n (x := some 35) (pc := 46) X dX8_mostOften_46 0 rfl ?_
          refine r_get (j := 6) (pc := 47) X ce_35 rfl inT8 (by decide) w_241 rfl dX8_mostOften_47 ?_
          refine r_alen (t0 := 1) (v := 2001) (pc := 50) X ce_37 rfl (by decide) dX8_mostOften_50 ?_
          refine b_icmp_ge (tgt := 82) (pc := 51) X dX8_mostOften_51 (by decide) hf (fun hf => ?_) (fun hf => ?_)
          · refine r_iinc (v := l4 + 1) (lv' := [(0, .ref (B + 35)), (1, .int l1), (2, .long l2), (4, .int (l4 + 1))]) (pc := 82) X dX8_mostOften_82 3 rfl rfl (by decide) [1, 2, 3, 0] rfl ?_
            refine r_goto (tgt := 7) (pc := 85) X dX8_mostOften_85 (by decide) ?_
            exact ih hf
          · refine r_aload_n (x := some 35) (pc := 54) X dX8_mostOften_54 0 rfl ?_
            refine r_get (j := 6) (pc := 55) X ce_35 rfl inT8 (by decide) w_241 rfl dX8_mostOften_55 ?_
            refine r_iload (pc := 58) X dX8_mostOften_58 4 rfl ?_
            refine b_iald (pc := 60) X ce_37 dX8_mostOften_60 hf (fun j2 hf => ?_)
            refine r_iload_n (pc := 61) X dX8_mostOften_61 1 rfl ?_
            refine b_icmp_le (tgt := 82) (pc := 62) X dX8_mostOften_62 (by decide) hf (fun hf => ?_) (fun hf => ?_)
            · refine r_iinc (v := l4 + 1) (lv' := [(0, .ref (B + 35)), (1, .int l1), (2, .long l2), (4, .int (l4 + 1))]) (pc := 82) X dX8_mostOften_82 3 rfl rfl (by decide) [1, 2, 3, 0] rfl ?_
              refine r_goto (tgt := 7) (pc := 85) X dX8_mostOften_85 (by decide) ?_
              exact ih hf
            · refine r_aload_n (x := some 35) (pc := 65) X dX8_mostOften_65 0 rfl ?_
              refine r_get (j := 6) (pc := 66) X ce_35 rfl inT8 (by decide) w_241 rfl dX8_mostOften_66 ?_
              refine r_iload (pc := 69) X dX8_mostOften_69 4 rfl ?_
              refine b_iald (pc := 71) X ce_37 dX8_mostOften_71 hf (fun j3 hf => ?_)
              refine r_istore_n (pc := 72) (lv' := [(0, .ref (B + 35)), (1, .int (gA s 37 j3)), (4, .int l4)]) X dX8_mostOften_72 (by decide) [1, 0, 3] rfl ?_
              refine r_aload_n (x := some 35) (pc := 73) X dX8_mostOften_73 0 rfl ?_
              refine r_get (j := 0) (pc := 74) X ce_35 rfl inT8 (by decide) w_235 rfl dX8_mostOften_74 ?_
              refine r_iload (pc := 77) X dX8_mostOften_77 2 rfl ?_
              refine b_iald (pc := 79) X ce_36 dX8_mostOften_79 hf (fun j4 hf => ?_)
              refine r_i2l (pc := 80) X dX8_mostOften_80 ?_
              refine r_lstore_n (pc := 81) (lv' := [(0, .ref (B + 35)), (1, .int (gA s 37 j3)), (2, .long ((gA s 36 j4).toInt64)), (4, .int l4)]) X dX8_mostOften_81 (by decide) [1, 2, 0, 3] rfl ?_
              refine r_iinc (v := l4 + 1) (lv' := [(0, .ref (B + 35)), (1, .int (gA s 37 j3)), (2, .long ((gA s 36 j4).toInt64)), (4, .int (l4 + 1))]) (pc := 82) X dX8_mostOften_82 3 rfl rfl (by decide) [1, 2, 3, 0] rfl ?_
              refine r_goto (tgt := 7) (pc := 85) X dX8_mostOften_85 (by decide) ?_
              exact ih hf
set_option maxHeartbeats 1000000 in
theorem c_f_Tally_mostOftenr {F : Nat} {s : St}  {r : Int64} {s' : St} (hf : f_Tally_mostOftenr F s  = some (r, s')) : CC true yX8_mostOften (Cond.code yX8_mostOften cX8_mostOften 6 (some .long)) 0 0 (fun B => [.ref (B + 35)]) s (fun B => (some (.long r))) s' 0 0 := by
  refine CC.of (fun B => [(0, .ref (B + 35))]) (by decide +kernel) (fun _ => rfl) (fun _ => (by simp [lg_sl, rfB_cat, catI, catL, catR])) (fun Γ D B X hr hin => ?_)
  have X : Cx Γ RX8 cX8_mostOften 6 D B { frames := 0, cells := 0, slots := 0, locals := 0 } := X
  unfold f_Tally_mostOftenr at hf
  refine r_iconst (v := 0) (pc := 0) X dX8_mostOften_0 (by decide) ?_
  refine r_istore_n (pc := 1) (lv' := [(0, .ref (B + 35)), (1, .int 0)]) X dX8_mostOften_1 (by decide) [1, 0] rfl ?_
  refine r_lconst (v := 0) (pc := 2) X dX8_mostOften_2 (by decide) ?_
  refine r_lstore_n (pc := 3) (lv' := [(0, .ref (B + 35)), (1, .int 0), (2, .long 0)]) X dX8_mostOften_3 (by decide) [1, 2, 0] rfl ?_
  refine r_iconst (v := 0) (pc := 4) X dX8_mostOften_4 (by decide) ?_
  refine r_istore (pc := 5) (lv' := [(0, .ref (B + 35)), (1, .int 0), (2, .long 0), (4, .int 0)]) X dX8_mostOften_5 (by decide) [1, 2, 3, 0] rfl ?_
  exact c_f_Tally_mostOftenr_b7 X hr _ hf
/-! f_Tally_resultr -/
theorem dX8_result_0 : decode cX8_result 0 = .ok (.iload_n 1, 1) := by decide +kernel
theorem dX8_result_1 : decode cX8_result 1 = .ok (.lookupswitch 93 #[(100, 82), (109, 70), (110, 59), (115, 65), (116, 88), (120, 76)], 59) := by decide +kernel
theorem dX8_result_60 : decode cX8_result 60 = .ok (.aload_n 0, 1) := by decide +kernel
theorem dX8_result_61 : decode cX8_result 61 = .ok (.getfield 15, 3) := by decide +kernel
theorem dX8_result_64 : decode cX8_result 64 = .ok (.i2l, 1) := by decide +kernel
theorem dX8_result_65 : decode cX8_result 65 = .ok (.lreturn, 1) := by decide +kernel
theorem dX8_result_66 : decode cX8_result 66 = .ok (.aload_n 0, 1) := by decide +kernel
theorem dX8_result_67 : decode cX8_result 67 = .ok (.getfield 19, 3) := by decide +kernel
theorem dX8_result_70 : decode cX8_result 70 = .ok (.lreturn, 1) := by decide +kernel
theorem dX8_result_71 : decode cX8_result 71 = .ok (.aload_n 0, 1) := by decide +kernel
theorem dX8_result_72 : decode cX8_result 72 = .ok (.getfield 23, 3) := by decide +kernel
theorem dX8_result_75 : decode cX8_result 75 = .ok (.i2l, 1) := by decide +kernel
theorem dX8_result_76 : decode cX8_result 76 = .ok (.lreturn, 1) := by decide +kernel
theorem dX8_result_77 : decode cX8_result 77 = .ok (.aload_n 0, 1) := by decide +kernel
theorem dX8_result_78 : decode cX8_result 78 = .ok (.getfield 26, 3) := by decide +kernel
theorem dX8_result_81 : decode cX8_result 81 = .ok (.i2l, 1) := by decide +kernel
theorem dX8_result_82 : decode cX8_result 82 = .ok (.lreturn, 1) := by decide +kernel
theorem dX8_result_83 : decode cX8_result 83 = .ok (.aload_n 0, 1) := by decide +kernel
theorem dX8_result_84 : decode cX8_result 84 = .ok (.getfield 29, 3) := by decide +kernel
theorem dX8_result_87 : decode cX8_result 87 = .ok (.i2l, 1) := by decide +kernel
theorem dX8_result_88 : decode cX8_result 88 = .ok (.lreturn, 1) := by decide +kernel
theorem dX8_result_89 : decode cX8_result 89 = .ok (.aload_n 0, 1) := by decide +kernel
theorem dX8_result_90 : decode cX8_result 90 = .ok (.invokevirtual 44, 3) := by decide +kernel
theorem dX8_result_93 : decode cX8_result 93 = .ok (.lreturn, 1) := by decide +kernel
theorem dX8_result_94 : decode cX8_result 94 = .ok (.lconst 0, 1) := by decide +kernel
theorem dX8_result_95 : decode cX8_result 95 = .ok (.lreturn, 1) := by decide +kernel
def f_Tally_resultr (F : Nat) (s : St) (p1 : Int32) : Option (Int64 × St) :=
  if p1 = 100 then
    (some (((gI s 2245).toInt64), s))
  else if p1 = 109 then
    (some (((gI s 2243).toInt64), s))
  else if p1 = 110 then
    (some (((gI s 2241).toInt64), s))
  else if p1 = 115 then
    (some ((gL s 2242), s))
  else if p1 = 116 then
    ((f_Tally_mostOftenr F s).bind fun x1 => (some (x1.1, x1.2)))
  else if p1 = 120 then
    (some (((gI s 2244).toInt64), s))
  else 
    (some (0, s))
set_option maxHeartbeats 1000000 in
theorem c_f_Tally_resultr {F : Nat} {s : St} {p1 : Int32} {r : Int64} {s' : St} (hf : f_Tally_resultr F s p1 = some (r, s')) : CC true yX8_result (Cond.code yX8_result cX8_result 2 (some .long)) 1 25 (fun B => [.ref (B + 35), .int p1]) s (fun B => (some (.long r))) s' 0 0 := by
  refine CC.of (fun B => [(0, .ref (B + 35)), (1, .int p1)]) (by decide +kernel) (fun _ => rfl) (fun _ => (by simp [lg_sl, rfB_cat, catI, catL, catR])) (fun Γ D B X hr hin => ?_)
  have X : Cx Γ RX8 cX8_result 2 D B { frames := 1, cells := 0, slots := 0, locals := 25 } := X
  unfold f_Tally_resultr at hf
  refine r_iload_n (pc := 0) X dX8_result_0 1 rfl ?_
  refine sw hf (fun e0 hf => ?_) (fun e0 hf => ?_)
  · refine r_lookup (tgt := 83) (pc := 1) X dX8_result_1 (by decide) (by rw [e0] <;> rfl) (by decide) ?_
    refine r_aload_n (x := some 35) (pc := 83) X dX8_result_83 0 rfl ?_
    refine r_get (j := 5) (pc := 84) X ce_35 rfl inT8 (by decide) w_240 rfl dX8_result_84 ?_
    refine r_i2l (pc := 87) X dX8_result_87 ?_
    exact e_lret (pc := 88) X hr hf (Nat.le_refl _) (Nat.le_refl _) dX8_result_88
  refine sw hf (fun e1 hf => ?_) (fun e1 hf => ?_)
  · refine r_lookup (tgt := 71) (pc := 1) X dX8_result_1 (by decide) (by rw [e1] <;> rfl) (by decide) ?_
    refine r_aload_n (x := some 35) (pc := 71) X dX8_result_71 0 rfl ?_
    refine r_get (j := 3) (pc := 72) X ce_35 rfl inT8 (by decide) w_238 rfl dX8_result_72 ?_
    refine r_i2l (pc := 75) X dX8_result_75 ?_
    exact e_lret (pc := 76) X hr hf (Nat.le_refl _) (Nat.le_refl _) dX8_result_76
  refine sw hf (fun e2 hf => ?_) (fun e2 hf => ?_)
  · refine r_lookup (tgt := 60) (pc := 1) X dX8_result_1 (by decide) (by rw [e2] <;> rfl) (by decide) ?_
    refine r_aload_n (x := some 35) (pc := 60) X dX8_result_60 0 rfl ?_
    refine r_get (j := 1) (pc := 61) X ce_35 rfl inT8 (by decide) w_236 rfl dX8_result_61 ?_
    refine r_i2l (pc := 64) X dX8_result_64 ?_
    exact e_lret (pc := 65) X hr hf (Nat.le_refl _) (Nat.le_refl _) dX8_result_65
  refine sw hf (fun e3 hf => ?_) (fun e3 hf => ?_)
  · refine r_lookup (tgt := 66) (pc := 1) X dX8_result_1 (by decide) (by rw [e3] <;> rfl) (by decide) ?_
    refine r_aload_n (x := some 35) (pc := 66) X dX8_result_66 0 rfl ?_
    refine r_get (j := 2) (pc := 67) X ce_35 rfl inT8 (by decide) w_237 rfl dX8_result_67 ?_
    exact e_lret (pc := 70) X hr hf (Nat.le_refl _) (Nat.le_refl _) dX8_result_70
  refine sw hf (fun e4 hf => ?_) (fun e4 hf => ?_)
  · refine r_lookup (tgt := 89) (pc := 1) X dX8_result_1 (by decide) (by rw [e4] <;> rfl) (by decide) ?_
    refine r_aload_n (x := some 35) (pc := 89) X dX8_result_89 0 rfl ?_
    refine bnd hf (fun x1 h1 hf => ?_)
    refine r_callVl (As := []) (st := []) (pc := 90) X (c_f_Tally_mostOftenr h1) rfl w_580 w_582 w_10 w_44 w_583 hdV_X8_mostOften (Rc.s rfl ce_35) (by decide) (by decide) (by decide) (Nat.le_of_ble_eq_true rfl) dX8_result_90 rfl ?_
    exact e_lret (pc := 93) X hr hf (Nat.le_refl _) (Nat.le_refl _) dX8_result_93
  refine sw hf (fun e5 hf => ?_) (fun e5 hf => ?_)
  · refine r_lookup (tgt := 77) (pc := 1) X dX8_result_1 (by decide) (by rw [e5] <;> rfl) (by decide) ?_
    refine r_aload_n (x := some 35) (pc := 77) X dX8_result_77 0 rfl ?_
    refine r_get (j := 4) (pc := 78) X ce_35 rfl inT8 (by decide) w_239 rfl dX8_result_78 ?_
    refine r_i2l (pc := 81) X dX8_result_81 ?_
    exact e_lret (pc := 82) X hr hf (Nat.le_refl _) (Nat.le_refl _) dX8_result_82
  · refine r_lookup (off := 93) (tgt := 94) (pc := 1) X dX8_result_1 (by decide) ((lv_osw e0 (by decide)).trans ((lv_osw e1 (by decide)).trans ((lv_osw e2 (by decide)).trans ((lv_osw e3 (by decide)).trans ((lv_osw e4 (by decide)).trans ((lv_osw e5 (by decide)).trans rfl)))))) (by decide) ?_
    refine r_lconst (v := 0) (pc := 94) X dX8_result_94 (by decide) ?_
    exact e_lret (pc := 95) X hr hf (Nat.le_refl _) (Nat.le_refl _) dX8_result_95
/-! f_Tally_addr -/
theorem dX8_add_0 : decode cX8_add 0 = .ok (.iload_n 1, 1) := by decide +kernel
theorem dX8_add_1 : decode cX8_add 1 = .ok (.sipush 1000, 3) := by decide +kernel
theorem dX8_add_4 : decode cX8_add 4 = .ok (.iadd, 1) := by decide +kernel
theorem dX8_add_5 : decode cX8_add 5 = .ok (.istore_n 2, 1) := by decide +kernel
theorem dX8_add_6 : decode cX8_add 6 = .ok (.iload_n 2, 1) := by decide +kernel
theorem dX8_add_7 : decode cX8_add 7 = .ok (.ifCond .lt 31, 3) := by decide +kernel
theorem dX8_add_10 : decode cX8_add 10 = .ok (.iload_n 2, 1) := by decide +kernel
theorem dX8_add_11 : decode cX8_add 11 = .ok (.aload_n 0, 1) := by decide +kernel
theorem dX8_add_12 : decode cX8_add 12 = .ok (.getfield 32, 3) := by decide +kernel
theorem dX8_add_15 : decode cX8_add 15 = .ok (.arraylength, 1) := by decide +kernel
theorem dX8_add_16 : decode cX8_add 16 = .ok (.if_icmp .ge 22, 3) := by decide +kernel
theorem dX8_add_19 : decode cX8_add 19 = .ok (.aload_n 0, 1) := by decide +kernel
theorem dX8_add_20 : decode cX8_add 20 = .ok (.getfield 15, 3) := by decide +kernel
theorem dX8_add_23 : decode cX8_add 23 = .ok (.ifCond .lt 15, 3) := by decide +kernel
theorem dX8_add_26 : decode cX8_add 26 = .ok (.aload_n 0, 1) := by decide +kernel
theorem dX8_add_27 : decode cX8_add 27 = .ok (.getfield 15, 3) := by decide +kernel
theorem dX8_add_30 : decode cX8_add 30 = .ok (.aload_n 0, 1) := by decide +kernel
theorem dX8_add_31 : decode cX8_add 31 = .ok (.getfield 9, 3) := by decide +kernel
theorem dX8_add_34 : decode cX8_add 34 = .ok (.arraylength, 1) := by decide +kernel
theorem dX8_add_35 : decode cX8_add 35 = .ok (.if_icmp .lt 4, 3) := by decide +kernel
theorem dX8_add_38 : decode cX8_add 38 = .ok (.return_, 1) := by decide +kernel
theorem dX8_add_39 : decode cX8_add 39 = .ok (.aload_n 0, 1) := by decide +kernel
theorem dX8_add_40 : decode cX8_add 40 = .ok (.dup, 1) := by decide +kernel
theorem dX8_add_41 : decode cX8_add 41 = .ok (.getfield 19, 3) := by decide +kernel
theorem dX8_add_44 : decode cX8_add 44 = .ok (.iload_n 1, 1) := by decide +kernel
theorem dX8_add_45 : decode cX8_add 45 = .ok (.i2l, 1) := by decide +kernel
theorem dX8_add_46 : decode cX8_add 46 = .ok (.ladd, 1) := by decide +kernel
theorem dX8_add_47 : decode cX8_add 47 = .ok (.putfield 19, 3) := by decide +kernel
theorem dX8_add_50 : decode cX8_add 50 = .ok (.aload_n 0, 1) := by decide +kernel
theorem dX8_add_51 : decode cX8_add 51 = .ok (.aload_n 0, 1) := by decide +kernel
theorem dX8_add_52 : decode cX8_add 52 = .ok (.getfield 15, 3) := by decide +kernel
theorem dX8_add_55 : decode cX8_add 55 = .ok (.ifCond .ne 7, 3) := by decide +kernel
theorem dX8_add_58 : decode cX8_add 58 = .ok (.iload_n 1, 1) := by decide +kernel
theorem dX8_add_59 : decode cX8_add 59 = .ok (.goto 11, 3) := by decide +kernel
theorem dX8_add_62 : decode cX8_add 62 = .ok (.aload_n 0, 1) := by decide +kernel
theorem dX8_add_63 : decode cX8_add 63 = .ok (.getfield 23, 3) := by decide +kernel
theorem dX8_add_66 : decode cX8_add 66 = .ok (.iload_n 1, 1) := by decide +kernel
theorem dX8_add_67 : decode cX8_add 67 = .ok (.invokestatic 35, 3) := by decide +kernel
theorem dX8_add_70 : decode cX8_add 70 = .ok (.putfield 23, 3) := by decide +kernel
theorem dX8_add_73 : decode cX8_add 73 = .ok (.aload_n 0, 1) := by decide +kernel
theorem dX8_add_74 : decode cX8_add 74 = .ok (.aload_n 0, 1) := by decide +kernel
theorem dX8_add_75 : decode cX8_add 75 = .ok (.getfield 15, 3) := by decide +kernel
theorem dX8_add_78 : decode cX8_add 78 = .ok (.ifCond .ne 7, 3) := by decide +kernel
theorem dX8_add_81 : decode cX8_add 81 = .ok (.iload_n 1, 1) := by decide +kernel
theorem dX8_add_82 : decode cX8_add 82 = .ok (.goto 11, 3) := by decide +kernel
theorem dX8_add_85 : decode cX8_add 85 = .ok (.aload_n 0, 1) := by decide +kernel
theorem dX8_add_86 : decode cX8_add 86 = .ok (.getfield 26, 3) := by decide +kernel
theorem dX8_add_89 : decode cX8_add 89 = .ok (.iload_n 1, 1) := by decide +kernel
theorem dX8_add_90 : decode cX8_add 90 = .ok (.invokestatic 41, 3) := by decide +kernel
theorem dX8_add_93 : decode cX8_add 93 = .ok (.putfield 26, 3) := by decide +kernel
theorem dX8_add_96 : decode cX8_add 96 = .ok (.aload_n 0, 1) := by decide +kernel
theorem dX8_add_97 : decode cX8_add 97 = .ok (.dup, 1) := by decide +kernel
theorem dX8_add_98 : decode cX8_add 98 = .ok (.getfield 29, 3) := by decide +kernel
theorem dX8_add_101 : decode cX8_add 101 = .ok (.aload_n 0, 1) := by decide +kernel
theorem dX8_add_102 : decode cX8_add 102 = .ok (.getfield 32, 3) := by decide +kernel
theorem dX8_add_105 : decode cX8_add 105 = .ok (.iload_n 2, 1) := by decide +kernel
theorem dX8_add_106 : decode cX8_add 106 = .ok (.iaload, 1) := by decide +kernel
theorem dX8_add_107 : decode cX8_add 107 = .ok (.ifCond .ne 7, 3) := by decide +kernel
theorem dX8_add_110 : decode cX8_add 110 = .ok (.iconst 1, 1) := by decide +kernel
theorem dX8_add_111 : decode cX8_add 111 = .ok (.goto 4, 3) := by decide +kernel
theorem dX8_add_114 : decode cX8_add 114 = .ok (.iconst 0, 1) := by decide +kernel
theorem dX8_add_115 : decode cX8_add 115 = .ok (.iadd, 1) := by decide +kernel
theorem dX8_add_116 : decode cX8_add 116 = .ok (.putfield 29, 3) := by decide +kernel
theorem dX8_add_119 : decode cX8_add 119 = .ok (.aload_n 0, 1) := by decide +kernel
theorem dX8_add_120 : decode cX8_add 120 = .ok (.getfield 32, 3) := by decide +kernel
theorem dX8_add_123 : decode cX8_add 123 = .ok (.iload_n 2, 1) := by decide +kernel
theorem dX8_add_124 : decode cX8_add 124 = .ok (.dup2, 1) := by decide +kernel
theorem dX8_add_125 : decode cX8_add 125 = .ok (.iaload, 1) := by decide +kernel
theorem dX8_add_126 : decode cX8_add 126 = .ok (.iconst 1, 1) := by decide +kernel
theorem dX8_add_127 : decode cX8_add 127 = .ok (.iadd, 1) := by decide +kernel
theorem dX8_add_128 : decode cX8_add 128 = .ok (.iastore, 1) := by decide +kernel
theorem dX8_add_129 : decode cX8_add 129 = .ok (.aload_n 0, 1) := by decide +kernel
theorem dX8_add_130 : decode cX8_add 130 = .ok (.getfield 9, 3) := by decide +kernel
theorem dX8_add_133 : decode cX8_add 133 = .ok (.aload_n 0, 1) := by decide +kernel
theorem dX8_add_134 : decode cX8_add 134 = .ok (.getfield 15, 3) := by decide +kernel
theorem dX8_add_137 : decode cX8_add 137 = .ok (.iload_n 1, 1) := by decide +kernel
theorem dX8_add_138 : decode cX8_add 138 = .ok (.iastore, 1) := by decide +kernel
theorem dX8_add_139 : decode cX8_add 139 = .ok (.aload_n 0, 1) := by decide +kernel
theorem dX8_add_140 : decode cX8_add 140 = .ok (.dup, 1) := by decide +kernel
theorem dX8_add_141 : decode cX8_add 141 = .ok (.getfield 15, 3) := by decide +kernel
theorem dX8_add_144 : decode cX8_add 144 = .ok (.iconst 1, 1) := by decide +kernel
theorem dX8_add_145 : decode cX8_add 145 = .ok (.iadd, 1) := by decide +kernel
theorem dX8_add_146 : decode cX8_add 146 = .ok (.putfield 15, 3) := by decide +kernel
theorem dX8_add_149 : decode cX8_add 149 = .ok (.return_, 1) := by decide +kernel
def f_Tally_addr_b115 (F : Nat) (s : St) (l1 : Int32) (l2 : Int32) (t1 : Int32) (t2 : Int32) : Option (St) :=
  lt (sI s 2245 (t1 + t2)) fun s5 => ((ix 2001 l2).bind fun j6 => ((ix 2001 l2).bind fun j7 => (lt (sA s5 37 j7 ((gA s5 37 j6) + 1)) fun s8 => ((ix 100 (gI s8 2241)).bind fun j9 => (lt (sA s8 36 j9 l1) fun s10 => (lt (sI s10 2241 ((gI s10 2241) + 1)) fun s11 => (some s11)))))))
def f_Tally_addr_b70 (F : Nat) (s : St) (l1 : Int32) (l2 : Int32) (t1 : Int32) : Option (St) :=
  lt (sI s 2243 t1) fun s2 => (if (gI s2 2241) = 0 then
    (lt (sI s2 2244 l1) fun s3 => ((ix 2001 l2).bind fun j4 => (if (gA s3 37 j4) = 0 then
      (f_Tally_addr_b115 F s3 l1 l2 (gI s3 2245) 1)
    else
      (f_Tally_addr_b115 F s3 l1 l2 (gI s3 2245) 0))))
  else
    (lt (sI s2 2244 (if (gI s2 2244) < l1 then l1 else (gI s2 2244))) fun s12 => ((ix 2001 l2).bind fun j13 => (if (gA s12 37 j13) = 0 then
      (f_Tally_addr_b115 F s12 l1 l2 (gI s12 2245) 1)
    else
      (f_Tally_addr_b115 F s12 l1 l2 (gI s12 2245) 0)))))
def f_Tally_addr (F : Nat) (s : St) (p1 : Int32) : Option (St) :=
  if (p1 + 1000) < 0 then
    (some s)
  else
    (if 2001 ≤ (p1 + 1000) then
      (some s)
    else
      (if (gI s 2241) < 0 then
        (some s)
      else
        (if (gI s 2241) < 100 then
          (lt (sL s 2242 ((gL s 2242) + p1.toInt64)) fun s1 => (if (gI s1 2241) = 0 then
            (f_Tally_addr_b70 F s1 p1 (p1 + 1000) p1)
          else
            (f_Tally_addr_b70 F s1 p1 (p1 + 1000) (if p1 < (gI s1 2243) then p1 else (gI s1 2243)))))
        else
          (some s))))
set_option maxHeartbeats 1000000 in
theorem c_f_Tally_addr_b115 {F : Nat} {Γ : Ga} {D : DD} {B : Nat} {s' : St} (X : Cx Γ RX8 cX8_add 3 D B { frames := 1, cells := 0, slots := 0, locals := 14 }) (hr : (Gme Γ).sig.returnType = none) {s : St} {l1 : Int32} {l2 : Int32} {t1 : Int32} {t2 : Int32} (hf : f_Tally_addr_b115 F s l1 l2 t1 t2 = some s') : V Γ D B true 3 (QM Γ D B true s' none 0 0) 0 0 s 115 [(0, .ref (B + 35)), (1, .int l1), (2, .int l2)] [.int t2, .int t1, .ref (B + 35)] := by
  unfold f_Tally_addr_b115 at hf
  refine r_iadd (pc := 115) X dX8_add_115 ?_
  refine b_put (j := 5) (pc := 116) X ce_35 rfl inT8 tyX8 tyX8_ok nmX8 (by decide) w_240 rfl (tyX8_ok 5 (by decide)) rfl rfl (Nat.le_of_ble_eq_true rfl) (cp_2245 _) rfl rfl dX8_add_116 hf (fun s5 hf => ?_)
  refine r_aload_n (x := some 35) (pc := 119) X dX8_add_119 0 rfl ?_
  refine r_get (j := 6) (pc := 120) X ce_35 rfl inT8 (by decide) w_241 rfl dX8_add_120 ?_
  refine r_iload_n (pc := 123) X dX8_add_123 2 rfl ?_
  refine r_dup2 (pc := 124) X dX8_add_124 rfl rfl ?_
  refine b_iald (pc := 125) X ce_37 dX8_add_125 hf (fun j6 hf => ?_)
  refine r_iconst (v := 1) (pc := 126) X dX8_add_126 (by decide) ?_
  refine r_iadd (pc := 127) X dX8_add_127 ?_
  refine b_iast (pc := 128) X ce_37 (fun _ => ca_37 _ _) dX8_add_128 hf (fun j7 s8 hf => ?_)
  refine r_aload_n (x := some 35) (pc := 129) X dX8_add_129 0 rfl ?_
  refine r_get (j := 0) (pc := 130) X ce_35 rfl inT8 (by decide) w_235 rfl dX8_add_130 ?_
  refine r_aload_n (x := some 35) (pc := 133) X dX8_add_133 0 rfl ?_
  refine r_get (j := 1) (pc := 134) X ce_35 rfl inT8 (by decide) w_236 rfl dX8_add_134 ?_
  refine r_iload_n (pc := 137) X dX8_add_137 1 rfl ?_
  refine b_iast (pc := 138) X ce_36 (fun _ => ca_36 _ _) dX8_add_138 hf (fun j9 s10 hf => ?_)
  refine r_aload_n (x := some 35) (pc := 139) X dX8_add_139 0 rfl ?_
  refine r_dup (pc := 140) X dX8_add_140 rfl ?_
  refine r_get (j := 1) (pc := 141) X ce_35 rfl inT8 (by decide) w_236 rfl dX8_add_141 ?_
  refine r_iconst (v := 1) (pc := 144) X dX8_add_144 (by decide) ?_
  refine r_iadd (pc := 145) X dX8_add_145 ?_
  refine b_put (j := 1) (pc := 146) X ce_35 rfl inT8 tyX8 tyX8_ok nmX8 (by decide) w_236 rfl (tyX8_ok 1 (by decide)) rfl rfl (Nat.le_of_ble_eq_true rfl) (cp_2241 _) rfl rfl dX8_add_146 hf (fun s11 hf => ?_)
  exact e_vret (pc := 149) X hr hf (Nat.le_refl _) (Nat.le_refl _) dX8_add_149
set_option maxHeartbeats 1000000 in
theorem c_f_Tally_addr_b70 {F : Nat} {Γ : Ga} {D : DD} {B : Nat} {s' : St} (X : Cx Γ RX8 cX8_add 3 D B { frames := 1, cells := 0, slots := 0, locals := 14 }) (hr : (Gme Γ).sig.returnType = none) {s : St} {l1 : Int32} {l2 : Int32} {t1 : Int32} (hf : f_Tally_addr_b70 F s l1 l2 t1 = some s') : V Γ D B true 3 (QM Γ D B true s' none 0 0) 0 0 s 70 [(0, .ref (B + 35)), (1, .int l1), (2, .int l2)] [.int t1, .ref (B + 35)] := by
  unfold f_Tally_addr_b70 at hf
  refine b_put (j := 3) (pc := 70) X ce_35 rfl inT8 tyX8 tyX8_ok nmX8 (by decide) w_238 rfl (tyX8_ok 3 (by decide)) rfl rfl (Nat.le_of_ble_eq_true rfl) (cp_2243 _) rfl rfl dX8_add_70 hf (fun s2 hf => ?_)
  refine r_aload_n (x := some 35) (pc := 73) X dX8_add_73 0 rfl ?_
  refine r_aload_n (x := some 35) (pc := 74) X dX8_add_74 0 rfl ?_
  refine r_get (j := 1) (pc := 75) X ce_35 rfl inT8 (by decide) w_236 rfl dX8_add_75 ?_
  refine b_if_ne (tgt := 85) (pc := 78) X dX8_add_78 (by decide) hf (fun hf => ?_) (fun hf => ?_)
  · refine r_iload_n (pc := 81) X dX8_add_81 1 rfl ?_
    refine r_goto (tgt := 93) (pc := 82) X dX8_add_82 (by decide) ?_
    refine b_put (j := 4) (pc := 93) X ce_35 rfl inT8 tyX8 tyX8_ok nmX8 (by decide) w_239 rfl (tyX8_ok 4 (by decide)) rfl rfl (Nat.le_of_ble_eq_true rfl) (cp_2244 _) rfl rfl dX8_add_93 hf (fun s3 hf => ?_)
    refine r_aload_n (x := some 35) (pc := 96) X dX8_add_96 0 rfl ?_
    refine r_dup (pc := 97) X dX8_add_97 rfl ?_
    refine r_get (j := 5) (pc := 98) X ce_35 rfl inT8 (by decide) w_240 rfl dX8_add_98 ?_
    refine r_aload_n (x := some 35) (pc := 101) X dX8_add_101 0 rfl ?_
    refine r_get (j := 6) (pc := 102) X ce_35 rfl inT8 (by decide) w_241 rfl dX8_add_102 ?_
    refine r_iload_n (pc := 105) X dX8_add_105 2 rfl ?_
    refine b_iald (pc := 106) X ce_37 dX8_add_106 hf (fun j4 hf => ?_)
    refine b_if_ne (tgt := 114) (pc := 107) X dX8_add_107 (by decide) hf (fun hf => ?_) (fun hf => ?_)
    · refine r_iconst (v := 1) (pc := 110) X dX8_add_110 (by decide) ?_
      refine r_goto (tgt := 115) (pc := 111) X dX8_add_111 (by decide) ?_
      exact c_f_Tally_addr_b115 X hr hf
    · refine r_iconst (v := 0) (pc := 114) X dX8_add_114 (by decide) ?_
      exact c_f_Tally_addr_b115 X hr hf
  · refine r_aload_n (x := some 35) (pc := 85) X dX8_add_85 0 rfl ?_
    refine r_get (j := 4) (pc := 86) X ce_35 rfl inT8 (by decide) w_239 rfl dX8_add_86 ?_
    refine r_iload_n (pc := 89) X dX8_add_89 1 rfl ?_
    refine r_max (pc := 90) X w_575 w_508 w_51 w_maxcode ⟨Nat.le_of_ble_eq_true rfl, Nat.le_of_ble_eq_true rfl⟩ (by decide) (by decide) dX8_add_90 ?_
    refine b_put (j := 4) (pc := 93) X ce_35 rfl inT8 tyX8 tyX8_ok nmX8 (by decide) w_239 rfl (tyX8_ok 4 (by decide)) rfl rfl (Nat.le_of_ble_eq_true rfl) (cp_2244 _) rfl rfl dX8_add_93 hf (fun s12 hf => ?_)
    refine r_aload_n (x := some 35) (pc := 96) X dX8_add_96 0 rfl ?_
    refine r_dup (pc := 97) X dX8_add_97 rfl ?_
    refine r_get (j := 5) (pc := 98) X ce_35 rfl inT8 (by decide) w_240 rfl dX8_add_98 ?_
    refine r_aload_n (x := some 35) (pc := 101) X dX8_add_101 0 rfl ?_
    refine r_get (j := 6) (pc := 102) X ce_35 rfl inT8 (by decide) w_241 rfl dX8_add_102 ?_
    refine r_iload_n (pc := 105) X dX8_add_105 2 rfl ?_
    refine b_iald (pc := 106) X ce_37 dX8_add_106 hf (fun j13 hf => ?_)
    refine b_if_ne (tgt := 114) (pc := 107) X dX8_add_107 (by decide) hf (fun hf => ?_) (fun hf => ?_)
    · refine r_iconst (v := 1) (pc := 110) X dX8_add_110 (by decide) ?_
      refine r_goto (tgt := 115) (pc := 111) X dX8_add_111 (by decide) ?_
      exact c_f_Tally_addr_b115 X hr hf
    · refine r_iconst (v := 0) (pc := 114) X dX8_add_114 (by decide) ?_
      exact c_f_Tally_addr_b115 X hr hf
set_option maxHeartbeats 1000000 in
theorem c_f_Tally_addr {F : Nat} {s : St} {p1 : Int32} {s' : St} (hf : f_Tally_addr F s p1 = some s') : CC true yX8_add (Cond.code yX8_add cX8_add 3 none) 1 14 (fun B => [.ref (B + 35), .int p1]) s (fun B => none) s' 0 0 := by
  refine CC.of (fun B => [(0, .ref (B + 35)), (1, .int p1)]) (by decide +kernel) (fun _ => rfl) (fun _ => (by simp [lg_sl, rfB_cat, catI, catL, catR])) (fun Γ D B X hr hin => ?_)
  have X : Cx Γ RX8 cX8_add 3 D B { frames := 1, cells := 0, slots := 0, locals := 14 } := X
  unfold f_Tally_addr at hf
  refine r_iload_n (pc := 0) X dX8_add_0 1 rfl ?_
  refine r_sipush (v := 1000) (pc := 1) X dX8_add_1 (by decide) ?_
  refine r_iadd (pc := 4) X dX8_add_4 ?_
  refine r_istore_n (pc := 5) (lv' := [(0, .ref (B + 35)), (1, .int p1), (2, .int (p1 + 1000))]) X dX8_add_5 (by decide) [1, 2, 0] rfl ?_
  refine r_iload_n (pc := 6) X dX8_add_6 2 rfl ?_
  refine b_if_lt (tgt := 38) (pc := 7) X dX8_add_7 (by decide) hf (fun hf => ?_) (fun hf => ?_)
  · exact e_vret (pc := 38) X hr hf (Nat.le_refl _) (Nat.le_refl _) dX8_add_38
  · refine r_iload_n (pc := 10) X dX8_add_10 2 rfl ?_
    refine r_aload_n (x := some 35) (pc := 11) X dX8_add_11 0 rfl ?_
    refine r_get (j := 6) (pc := 12) X ce_35 rfl inT8 (by decide) w_241 rfl dX8_add_12 ?_
    refine r_alen (t0 := 1) (v := 2001) (pc := 15) X ce_37 rfl (by decide) dX8_add_15 ?_
    refine b_icmp_ge (tgt := 38) (pc := 16) X dX8_add_16 (by decide) hf (fun hf => ?_) (fun hf => ?_)
    · exact e_vret (pc := 38) X hr hf (Nat.le_refl _) (Nat.le_refl _) dX8_add_38
    · refine r_aload_n (x := some 35) (pc := 19) X dX8_add_19 0 rfl ?_
      refine r_get (j := 1) (pc := 20) X ce_35 rfl inT8 (by decide) w_236 rfl dX8_add_20 ?_
      refine b_if_lt (tgt := 38) (pc := 23) X dX8_add_23 (by decide) hf (fun hf => ?_) (fun hf => ?_)
      · exact e_vret (pc := 38) X hr hf (Nat.le_refl _) (Nat.le_refl _) dX8_add_38
      · refine r_aload_n (x := some 35) (pc := 26) X dX8_add_26 0 rfl ?_
        refine r_get (j := 1) (pc := 27) X ce_35 rfl inT8 (by decide) w_236 rfl dX8_add_27 ?_
        refine r_aload_n (x := some 35) (pc := 30) X dX8_add_30 0 rfl ?_
        refine r_get (j := 0) (pc := 31) X ce_35 rfl inT8 (by decide) w_235 rfl dX8_add_31 ?_
        refine r_alen (t0 := 1) (v := 100) (pc := 34) X ce_36 rfl (by decide) dX8_add_34 ?_
        refine b_icmp_lt (tgt := 39) (pc := 35) X dX8_add_35 (by decide) hf (fun hf => ?_) (fun hf => ?_)
        · refine r_aload_n (x := some 35) (pc := 39) X dX8_add_39 0 rfl ?_
          refine r_dup (pc := 40) X dX8_add_40 rfl ?_
          refine r_get (j := 2) (pc := 41) X ce_35 rfl inT8 (by decide) w_237 rfl dX8_add_41 ?_
          refine r_iload_n (pc := 44) X dX8_add_44 1 rfl ?_
          refine r_i2l (pc := 45) X dX8_add_45 ?_
          refine r_ladd (pc := 46) X dX8_add_46 ?_
          refine b_put (j := 2) (pc := 47) X ce_35 rfl inT8 tyX8 tyX8_ok nmX8 (by decide) w_237 rfl (tyX8_ok 2 (by decide)) rfl rfl (Nat.le_of_ble_eq_true rfl) (cp_2242 _) rfl rfl dX8_add_47 hf (fun s1 hf => ?_)
          refine r_aload_n (x := some 35) (pc := 50) X dX8_add_50 0 rfl ?_
          refine r_aload_n (x := some 35) (pc := 51) X dX8_add_51 0 rfl ?_
          refine r_get (j := 1) (pc := 52) X ce_35 rfl inT8 (by decide) w_236 rfl dX8_add_52 ?_
          refine b_if_ne (tgt := 62) (pc := 55) X dX8_add_55 (by decide) hf (fun hf => ?_) (fun hf => ?_)
          · refine r_iload_n (pc := 58) X dX8_add_58 1 rfl ?_
            refine r_goto (tgt := 70) (pc := 59) X dX8_add_59 (by decide) ?_
            exact c_f_Tally_addr_b70 X hr hf
          · refine r_aload_n (x := some 35) (pc := 62) X dX8_add_62 0 rfl ?_
            refine r_get (j := 3) (pc := 63) X ce_35 rfl inT8 (by decide) w_238 rfl dX8_add_63 ?_
            refine r_iload_n (pc := 66) X dX8_add_66 1 rfl ?_
            refine r_min (pc := 67) X w_574 w_540 w_51 w_mincode ⟨Nat.le_of_ble_eq_true rfl, Nat.le_of_ble_eq_true rfl⟩ (by decide) (by decide) dX8_add_67 ?_
            exact c_f_Tally_addr_b70 X hr hf
        · exact e_vret (pc := 38) X hr hf (Nat.le_refl _) (Nat.le_refl _) dX8_add_38
/-! f_Runner_holds -/
theorem dX7_holds_0 : decode cX7_holds 0 = .ok (.iload_n 2, 1) := by decide +kernel
theorem dX7_holds_1 : decode cX7_holds 1 = .ok (.istore 6, 2) := by decide +kernel
theorem dX7_holds_3 : decode cX7_holds 3 = .ok (.iload_n 2, 1) := by decide +kernel
theorem dX7_holds_4 : decode cX7_holds 4 = .ok (.istore 7, 2) := by decide +kernel
theorem dX7_holds_6 : decode cX7_holds 6 = .ok (.iload 7, 2) := by decide +kernel
theorem dX7_holds_8 : decode cX7_holds 8 = .ok (.iload_n 3, 1) := by decide +kernel
theorem dX7_holds_9 : decode cX7_holds 9 = .ok (.if_icmp .ge 28, 3) := by decide +kernel
theorem dX7_holds_12 : decode cX7_holds 12 = .ok (.iload 6, 2) := by decide +kernel
theorem dX7_holds_14 : decode cX7_holds 14 = .ok (.iload_n 3, 1) := by decide +kernel
theorem dX7_holds_15 : decode cX7_holds 15 = .ok (.if_icmp .ge 22, 3) := by decide +kernel
theorem dX7_holds_18 : decode cX7_holds 18 = .ok (.aload_n 0, 1) := by decide +kernel
theorem dX7_holds_19 : decode cX7_holds 19 = .ok (.aload_n 1, 1) := by decide +kernel
theorem dX7_holds_20 : decode cX7_holds 20 = .ok (.iload 6, 2) := by decide +kernel
theorem dX7_holds_22 : decode cX7_holds 22 = .ok (.aload 4, 2) := by decide +kernel
theorem dX7_holds_24 : decode cX7_holds 24 = .ok (.iload 5, 2) := by decide +kernel
theorem dX7_holds_26 : decode cX7_holds 26 = .ok (.invokevirtual 34, 3) := by decide +kernel
theorem dX7_holds_29 : decode cX7_holds 29 = .ok (.istore 6, 2) := by decide +kernel
theorem dX7_holds_31 : decode cX7_holds 31 = .ok (.iinc 7 1, 3) := by decide +kernel
theorem dX7_holds_34 : decode cX7_holds 34 = .ok (.goto (-28), 3) := by decide +kernel
theorem dX7_holds_37 : decode cX7_holds 37 = .ok (.aload_n 0, 1) := by decide +kernel
theorem dX7_holds_38 : decode cX7_holds 38 = .ok (.invokevirtual 38, 3) := by decide +kernel
theorem dX7_holds_41 : decode cX7_holds 41 = .ok (.lconst 0, 1) := by decide +kernel
theorem dX7_holds_42 : decode cX7_holds 42 = .ok (.lcmp, 1) := by decide +kernel
theorem dX7_holds_43 : decode cX7_holds 43 = .ok (.ifCond .eq 7, 3) := by decide +kernel
theorem dX7_holds_46 : decode cX7_holds 46 = .ok (.iconst 1, 1) := by decide +kernel
theorem dX7_holds_47 : decode cX7_holds 47 = .ok (.goto 4, 3) := by decide +kernel
theorem dX7_holds_50 : decode cX7_holds 50 = .ok (.iconst 0, 1) := by decide +kernel
theorem dX7_holds_51 : decode cX7_holds 51 = .ok (.ireturn, 1) := by decide +kernel
def f_Runner_holds_b6 (F : Nat) : Nat → St → Int32 → Int32 → Int32 → Int32 → Option (Int32 × St)
  | 0, _, _, _, _, _ => none
  | n + 1, s, l3, l5, l6, l7 =>
    if l3 ≤ l7 then
      ((f_Runner_pull F s).bind fun x1 => (if x1.1 = 0 then
        (some (0, x1.2))
      else
        (some (1, x1.2))))
    else
      (if l3 ≤ l6 then
        ((f_Runner_pull F s).bind fun x2 => (if x2.1 = 0 then
          (some (0, x2.2))
        else
          (some (1, x2.2))))
      else
        ((f_Runner_step F s l6 l5).bind fun x3 => (f_Runner_holds_b6 F n x3.2 l3 l5 x3.1 (l7 + 1))))
def f_Runner_holds (F : Nat) (s : St) (p2 : Int32) (p3 : Int32) (p5 : Int32) : Option (Int32 × St) :=
  f_Runner_holds_b6 F F s p3 p5 p2 p2
set_option maxHeartbeats 1000000 in
theorem c_f_Runner_holds_b6 {F : Nat} {Γ : Ga} {D : DD} {B : Nat} {r : Int32} {s' : St} (X : Cx Γ RX7 cX7_holds 8 D B { frames := 3, cells := 0, slots := 0, locals := 71 }) (hr : (Gme Γ).sig.returnType = (some .boolean)) : ∀ (n : Nat) {s : St} {l3 : Int32} {l5 : Int32} {l6 : Int32} {l7 : Int32}, f_Runner_holds_b6 F n s l3 l5 l6 l7 = some (r, s') → V Γ D B true 8 (QM Γ D B true s' (some (.int r)) 0 0) 0 0 s 6 [(0, .ref (B + 34)), (1, .ref (B + 27)), (3, .int l3), (4, .ref (B + 3)), (5, .int l5), (6, .int l6), (7, .int l7)] [] := by
  intro n
  induction n with
  | zero => intro s l3 l5 l6 l7 hf; rw [f_Runner_holds_b6] at hf; cases hf
  | succ n ih =>
    intro s l3 l5 l6 l7 hf
    rw [f_Runner_holds_b6] at hf
    refine r_iload (pc := 6) X dX7_holds_6 6 rfl ?_
    refine r_iload_n (pc := 8) X dX7_holds_8 2 rfl ?_
    refine b_icmp_ge (tgt := 37) (pc := 9) X dX7_holds_9 (by decide) hf (fun hf => ?_) (fun hf => ?_)
    · refine r_aload_n (x := some 34) (pc := 37) X dX7_holds_37 0 rfl ?_
      refine bnd hf (fun x1 h1 hf => ?_)
      refine r_callVl (As := []) (st := []) (pc := 38) X (c_f_Runner_pull h1) rfl w_963 w_965 w_34 w_45 w_966 hdV_X7_pull (Rc.s rfl ce_34) (by decide) (by decide) (by decide) (Nat.le_of_ble_eq_true rfl) dX7_holds_38 rfl ?_
      refine r_lconst (v := 0) (pc := 41) X dX7_holds_41 (by decide) ?_
      refine b_lcmp_eq (tgt := 50) (pc := 42) X dX7_holds_42 dX7_holds_43 (by decide) hf (fun hf => ?_) (fun hf => ?_)
      · refine r_iconst (v := 0) (pc := 50) X dX7_holds_50 (by decide) ?_
        exact e_zret (pc := 51) X hr (by decide) hf (Nat.le_refl _) (Nat.le_refl _) dX7_holds_51
      · refine r_iconst (v := 1) (pc := 46) X dX7_holds_46 (by decide) ?_
        refine r_goto (tgt := 51) (pc := 47) X dX7_holds_47 (by decide) ?_
        exact e_zret (pc := 51) X hr (by decide) hf (Nat.le_refl _) (Nat.le_refl _) dX7_holds_51
    · refine r_iload (pc := 12) X dX7_holds_12 5 rfl ?_
      refine r_iload_n (pc := 14) X dX7_holds_14 2 rfl ?_
      refine b_icmp_ge (tgt := 37) (pc := 15) X dX7_holds_15 (by decide) hf (fun hf => ?_) (fun hf => ?_)
      · refine r_aload_n (x := some 34) (pc := 37) X dX7_holds_37 0 rfl ?_
        refine bnd hf (fun x2 h2 hf => ?_)
        refine r_callVl (As := []) (st := []) (pc := 38) X (c_f_Runner_pull h2) rfl w_963 w_965 w_34 w_45 w_966 hdV_X7_pull (Rc.s rfl ce_34) (by decide) (by decide) (by decide) (Nat.le_of_ble_eq_true rfl) dX7_holds_38 rfl ?_
        refine r_lconst (v := 0) (pc := 41) X dX7_holds_41 (by decide) ?_
        refine b_lcmp_eq (tgt := 50) (pc := 42) X dX7_holds_42 dX7_holds_43 (by decide) hf (fun hf => ?_) (fun hf => ?_)
        · refine r_iconst (v := 0) (pc := 50) X dX7_holds_50 (by decide) ?_
          exact e_zret (pc := 51) X hr (by decide) hf (Nat.le_refl _) (Nat.le_refl _) dX7_holds_51
        · refine r_iconst (v := 1) (pc := 46) X dX7_holds_46 (by decide) ?_
          refine r_goto (tgt := 51) (pc := 47) X dX7_holds_47 (by decide) ?_
          exact e_zret (pc := 51) X hr (by decide) hf (Nat.le_refl _) (Nat.le_refl _) dX7_holds_51
      · refine r_aload_n (x := some 34) (pc := 18) X dX7_holds_18 0 rfl ?_
        refine r_aload_n (x := some 27) (pc := 19) X dX7_holds_19 1 rfl ?_
        refine r_iload (pc := 20) X dX7_holds_20 5 rfl ?_
        refine r_aload (x := some 3) (pc := 22) X dX7_holds_22 3 rfl ?_
        refine r_iload (pc := 24) X dX7_holds_24 4 rfl ?_
        refine bnd hf (fun x3 h3 hf => ?_)
        refine r_callVi (As := [.ref (B + 27), .int l6, .ref (B + 3), .int l5]) (st := []) (pc := 26) X (c_f_Runner_step h3) rfl w_952 w_954 w_32 w_45 w_955 hdV_X7_step (Rc.s rfl ce_34) (by decide) (by decide) (by decide) (Nat.le_of_ble_eq_true rfl) dX7_holds_26 rfl ?_
        refine r_istore (pc := 29) (lv' := [(0, .ref (B + 34)), (1, .ref (B + 27)), (3, .int l3), (4, .ref (B + 3)), (5, .int l5), (6, .int x3.1), (7, .int l7)]) X dX7_holds_29 (by decide) [1, 2, 3, 4, 5, 0, 6] rfl ?_
        refine r_iinc (v := l7 + 1) (lv' := [(0, .ref (B + 34)), (1, .ref (B + 27)), (3, .int l3), (4, .ref (B + 3)), (5, .int l5), (6, .int x3.1), (7, .int (l7 + 1))]) (pc := 31) X dX7_holds_31 6 rfl rfl (by decide) [1, 2, 3, 4, 5, 6, 0] rfl ?_
        refine r_goto (tgt := 6) (pc := 34) X dX7_holds_34 (by decide) ?_
        exact ih hf
set_option maxHeartbeats 1000000 in
theorem c_f_Runner_holds {F : Nat} {s : St} {p2 : Int32} {p3 : Int32} {p5 : Int32} {r : Int32} {s' : St} (hf : f_Runner_holds F s p2 p3 p5 = some (r, s')) : CC true yX7_holds (Cond.code yX7_holds cX7_holds 8 (some .boolean)) 3 71 (fun B => [.ref (B + 34), .ref (B + 27), .int p2, .int p3, .ref (B + 3), .int p5]) s (fun B => (some (.int r))) s' 0 0 := by
  refine CC.of (fun B => [(0, .ref (B + 34)), (1, .ref (B + 27)), (2, .int p2), (3, .int p3), (4, .ref (B + 3)), (5, .int p5)]) (by decide +kernel) (fun _ => rfl) (fun _ => (by simp [lg_sl, rfB_cat, catI, catL, catR])) (fun Γ D B X hr hin => ?_)
  have X : Cx Γ RX7 cX7_holds 8 D B { frames := 3, cells := 0, slots := 0, locals := 71 } := X
  unfold f_Runner_holds at hf
  refine r_iload_n (pc := 0) X dX7_holds_0 2 rfl ?_
  refine r_istore (pc := 1) (lv' := [(0, .ref (B + 34)), (1, .ref (B + 27)), (2, .int p2), (3, .int p3), (4, .ref (B + 3)), (5, .int p5), (6, .int p2)]) X dX7_holds_1 (by decide) [1, 2, 3, 4, 5, 6, 0] rfl ?_
  refine r_iload_n (pc := 3) X dX7_holds_3 2 rfl ?_
  refine r_istore (pc := 4) (lv' := [(0, .ref (B + 34)), (1, .ref (B + 27)), (3, .int p3), (4, .ref (B + 3)), (5, .int p5), (6, .int p2), (7, .int p2)]) X dX7_holds_4 (by decide) [1, 2, 4, 5, 6, 7, 0] rfl ?_
  exact c_f_Runner_holds_b6 X hr _ hf
/-! f_Runner_gather -/
theorem dX7_gather_0 : decode cX7_gather 0 = .ok (.iload_n 2, 1) := by decide +kernel
theorem dX7_gather_1 : decode cX7_gather 1 = .ok (.iconst 3, 1) := by decide +kernel
theorem dX7_gather_2 : decode cX7_gather 2 = .ok (.iadd, 1) := by decide +kernel
theorem dX7_gather_3 : decode cX7_gather 3 = .ok (.istore 4, 2) := by decide +kernel
theorem dX7_gather_5 : decode cX7_gather 5 = .ok (.iload_n 2, 1) := by decide +kernel
theorem dX7_gather_6 : decode cX7_gather 6 = .ok (.ifCond .lt 10, 3) := by decide +kernel
theorem dX7_gather_9 : decode cX7_gather 9 = .ok (.iload 4, 2) := by decide +kernel
theorem dX7_gather_11 : decode cX7_gather 11 = .ok (.aload_n 1, 1) := by decide +kernel
theorem dX7_gather_12 : decode cX7_gather 12 = .ok (.arraylength, 1) := by decide +kernel
theorem dX7_gather_13 : decode cX7_gather 13 = .ok (.if_icmp .le 6, 3) := by decide +kernel
theorem dX7_gather_16 : decode cX7_gather 16 = .ok (.aload_n 1, 1) := by decide +kernel
theorem dX7_gather_17 : decode cX7_gather 17 = .ok (.arraylength, 1) := by decide +kernel
theorem dX7_gather_18 : decode cX7_gather 18 = .ok (.ireturn, 1) := by decide +kernel
theorem dX7_gather_19 : decode cX7_gather 19 = .ok (.aload_n 1, 1) := by decide +kernel
theorem dX7_gather_20 : decode cX7_gather 20 = .ok (.iload_n 2, 1) := by decide +kernel
theorem dX7_gather_21 : decode cX7_gather 21 = .ok (.iconst 1, 1) := by decide +kernel
theorem dX7_gather_22 : decode cX7_gather 22 = .ok (.iadd, 1) := by decide +kernel
theorem dX7_gather_23 : decode cX7_gather 23 = .ok (.iaload, 1) := by decide +kernel
theorem dX7_gather_24 : decode cX7_gather 24 = .ok (.istore 5, 2) := by decide +kernel
theorem dX7_gather_26 : decode cX7_gather 26 = .ok (.iload 4, 2) := by decide +kernel
theorem dX7_gather_28 : decode cX7_gather 28 = .ok (.aload_n 1, 1) := by decide +kernel
theorem dX7_gather_29 : decode cX7_gather 29 = .ok (.iload_n 2, 1) := by decide +kernel
theorem dX7_gather_30 : decode cX7_gather 30 = .ok (.iconst 2, 1) := by decide +kernel
theorem dX7_gather_31 : decode cX7_gather 31 = .ok (.iadd, 1) := by decide +kernel
theorem dX7_gather_32 : decode cX7_gather 32 = .ok (.iaload, 1) := by decide +kernel
theorem dX7_gather_33 : decode cX7_gather 33 = .ok (.iadd, 1) := by decide +kernel
theorem dX7_gather_34 : decode cX7_gather 34 = .ok (.istore 6, 2) := by decide +kernel
theorem dX7_gather_36 : decode cX7_gather 36 = .ok (.aload_n 0, 1) := by decide +kernel
theorem dX7_gather_37 : decode cX7_gather 37 = .ok (.getfield 12, 3) := by decide +kernel
theorem dX7_gather_40 : decode cX7_gather 40 = .ok (.invokevirtual 61, 3) := by decide +kernel
theorem dX7_gather_43 : decode cX7_gather 43 = .ok (.iconst 0, 1) := by decide +kernel
theorem dX7_gather_44 : decode cX7_gather 44 = .ok (.istore 7, 2) := by decide +kernel
theorem dX7_gather_46 : decode cX7_gather 46 = .ok (.iload 7, 2) := by decide +kernel
theorem dX7_gather_48 : decode cX7_gather 48 = .ok (.aload_n 3, 1) := by decide +kernel
theorem dX7_gather_49 : decode cX7_gather 49 = .ok (.getfield 64, 3) := by decide +kernel
theorem dX7_gather_52 : decode cX7_gather 52 = .ok (.if_icmp .ge 74, 3) := by decide +kernel
theorem dX7_gather_55 : decode cX7_gather 55 = .ok (.iload 7, 2) := by decide +kernel
theorem dX7_gather_57 : decode cX7_gather 57 = .ok (.aload_n 3, 1) := by decide +kernel
theorem dX7_gather_58 : decode cX7_gather 58 = .ok (.getfield 67, 3) := by decide +kernel
theorem dX7_gather_61 : decode cX7_gather 61 = .ok (.arraylength, 1) := by decide +kernel
theorem dX7_gather_62 : decode cX7_gather 62 = .ok (.if_icmp .ge 64, 3) := by decide +kernel
theorem dX7_gather_65 : decode cX7_gather 65 = .ok (.aload_n 3, 1) := by decide +kernel
theorem dX7_gather_66 : decode cX7_gather 66 = .ok (.getfield 67, 3) := by decide +kernel
theorem dX7_gather_69 : decode cX7_gather 69 = .ok (.iload 7, 2) := by decide +kernel
theorem dX7_gather_71 : decode cX7_gather 71 = .ok (.iaload, 1) := by decide +kernel
theorem dX7_gather_72 : decode cX7_gather 72 = .ok (.istore 8, 2) := by decide +kernel
theorem dX7_gather_74 : decode cX7_gather 74 = .ok (.iload 4, 2) := by decide +kernel
theorem dX7_gather_76 : decode cX7_gather 76 = .ok (.iload 6, 2) := by decide +kernel
theorem dX7_gather_78 : decode cX7_gather 78 = .ok (.if_icmp .eq 18, 3) := by decide +kernel
theorem dX7_gather_81 : decode cX7_gather 81 = .ok (.aload_n 0, 1) := by decide +kernel
theorem dX7_gather_82 : decode cX7_gather 82 = .ok (.aload_n 1, 1) := by decide +kernel
theorem dX7_gather_83 : decode cX7_gather 83 = .ok (.iload 4, 2) := by decide +kernel
theorem dX7_gather_85 : decode cX7_gather 85 = .ok (.iload 6, 2) := by decide +kernel
theorem dX7_gather_87 : decode cX7_gather 87 = .ok (.aload_n 3, 1) := by decide +kernel
theorem dX7_gather_88 : decode cX7_gather 88 = .ok (.iload 8, 2) := by decide +kernel
theorem dX7_gather_90 : decode cX7_gather 90 = .ok (.invokevirtual 71, 3) := by decide +kernel
theorem dX7_gather_93 : decode cX7_gather 93 = .ok (.ifCond .eq 27, 3) := by decide +kernel
theorem dX7_gather_96 : decode cX7_gather 96 = .ok (.aload_n 0, 1) := by decide +kernel
theorem dX7_gather_97 : decode cX7_gather 97 = .ok (.getfield 12, 3) := by decide +kernel
theorem dX7_gather_100 : decode cX7_gather 100 = .ok (.iload 5, 2) := by decide +kernel
theorem dX7_gather_102 : decode cX7_gather 102 = .ok (.ifCond .ne 7, 3) := by decide +kernel
theorem dX7_gather_105 : decode cX7_gather 105 = .ok (.iconst 0, 1) := by decide +kernel
theorem dX7_gather_106 : decode cX7_gather 106 = .ok (.goto 11, 3) := by decide +kernel
theorem dX7_gather_109 : decode cX7_gather 109 = .ok (.aload_n 3, 1) := by decide +kernel
theorem dX7_gather_110 : decode cX7_gather 110 = .ok (.iload 5, 2) := by decide +kernel
theorem dX7_gather_112 : decode cX7_gather 112 = .ok (.iload 8, 2) := by decide +kernel
theorem dX7_gather_114 : decode cX7_gather 114 = .ok (.invokevirtual 49, 3) := by decide +kernel
theorem dX7_gather_117 : decode cX7_gather 117 = .ok (.invokevirtual 75, 3) := by decide +kernel
theorem dX7_gather_120 : decode cX7_gather 120 = .ok (.iinc 7 1, 3) := by decide +kernel
theorem dX7_gather_123 : decode cX7_gather 123 = .ok (.goto (-77), 3) := by decide +kernel
theorem dX7_gather_126 : decode cX7_gather 126 = .ok (.aload_n 0, 1) := by decide +kernel
theorem dX7_gather_127 : decode cX7_gather 127 = .ok (.aload_n 0, 1) := by decide +kernel
theorem dX7_gather_128 : decode cX7_gather 128 = .ok (.getfield 12, 3) := by decide +kernel
theorem dX7_gather_131 : decode cX7_gather 131 = .ok (.aload_n 1, 1) := by decide +kernel
theorem dX7_gather_132 : decode cX7_gather 132 = .ok (.iload_n 2, 1) := by decide +kernel
theorem dX7_gather_133 : decode cX7_gather 133 = .ok (.iaload, 1) := by decide +kernel
theorem dX7_gather_134 : decode cX7_gather 134 = .ok (.invokevirtual 79, 3) := by decide +kernel
theorem dX7_gather_137 : decode cX7_gather 137 = .ok (.invokevirtual 42, 3) := by decide +kernel
theorem dX7_gather_140 : decode cX7_gather 140 = .ok (.iload 6, 2) := by decide +kernel
theorem dX7_gather_142 : decode cX7_gather 142 = .ok (.ireturn, 1) := by decide +kernel
def f_Runner_gather_b96 (F : Nat) (K46 : St → Int32 → Int32 → Int32 → Int32 → Int32 → Option (Int32 × St)) (s : St) (l2 : Int32) (l4 : Int32) (l5 : Int32) (l6 : Int32) (l7 : Int32) (l8 : Int32) : Option (Int32 × St) :=
  if l5 = 0 then
    ((f_Tally_addr F s 0).bind fun x11 => (K46 x11 l2 l4 l5 l6 (l7 + 1)))
  else
    ((f_Logs_fieldOf F s l5 l8).bind fun x12 => ((f_Tally_addr F x12.2 x12.1).bind fun x13 => (K46 x13 l2 l4 l5 l6 (l7 + 1))))
def f_Runner_gather_b46 (F : Nat) : Nat → St → Int32 → Int32 → Int32 → Int32 → Int32 → Option (Int32 × St)
  | 0, _, _, _, _, _, _ => none
  | n + 1, s, l2, l4, l5, l6, l7 =>
    if (gI s 201) ≤ l7 then
      ((ix 80 l2).bind fun j4 => ((f_Tally_resultr F s (gA s 27 j4)).bind fun x5 => ((f_Runner_push F x5.2 x5.1).bind fun x6 => (some (l6, x6)))))
    else
      (if 100 ≤ l7 then
        ((ix 80 l2).bind fun j7 => ((f_Tally_resultr F s (gA s 27 j7)).bind fun x8 => ((f_Runner_push F x8.2 x8.1).bind fun x9 => (some (l6, x9)))))
      else
        ((ix 100 l7).bind fun j10 => (if l4 = l6 then
          (f_Runner_gather_b96 F (f_Runner_gather_b46 F n) s l2 l4 l5 l6 l7 (gA s 11 j10))
        else
          ((f_Runner_holds F s l4 l6 (gA s 11 j10)).bind fun x14 => (if x14.1 = 0 then
            (f_Runner_gather_b46 F n x14.2 l2 l4 l5 l6 (l7 + 1))
          else
            (f_Runner_gather_b96 F (f_Runner_gather_b46 F n) x14.2 l2 l4 l5 l6 l7 (gA s 11 j10)))))))
def f_Runner_gather (F : Nat) (s : St) (p2 : Int32) : Option (Int32 × St) :=
  if p2 < 0 then
    (some (80, s))
  else
    (if (p2 + 3) ≤ 80 then
      ((ix 80 (p2 + 1)).bind fun j1 => ((ix 80 (p2 + 2)).bind fun j2 => ((f_Tally_clearr F s).bind fun x3 => (f_Runner_gather_b46 F F x3 p2 (p2 + 3) (gA s 27 j1) ((p2 + 3) + (gA s 27 j2)) 0))))
    else
      (some (80, s)))
set_option maxHeartbeats 1000000 in
theorem c_f_Runner_gather_b96 {F : Nat} {Γ : Ga} {D : DD} {B : Nat} {r : Int32} {s' : St} (X : Cx Γ RX7 cX7_gather 9 D B { frames := 4, cells := 0, slots := 0, locals := 98 }) (hr : (Gme Γ).sig.returnType = (some .int)) {K46 : St → Int32 → Int32 → Int32 → Int32 → Int32 → Option (Int32 × St)} (hK46 : ∀ {s : St} {l2 : Int32} {l4 : Int32} {l5 : Int32} {l6 : Int32} {l7 : Int32}, K46 s l2 l4 l5 l6 l7 = some (r, s') → V Γ D B true 9 (QM Γ D B true s' (some (.int r)) 0 0) 0 0 s 46 [(0, .ref (B + 34)), (1, .ref (B + 27)), (2, .int l2), (3, .ref (B + 3)), (4, .int l4), (5, .int l5), (6, .int l6), (7, .int l7)] []) {s : St} {l2 : Int32} {l4 : Int32} {l5 : Int32} {l6 : Int32} {l7 : Int32} {l8 : Int32} (hf : f_Runner_gather_b96 F K46 s l2 l4 l5 l6 l7 l8 = some (r, s')) : V Γ D B true 9 (QM Γ D B true s' (some (.int r)) 0 0) 0 0 s 96 [(0, .ref (B + 34)), (1, .ref (B + 27)), (2, .int l2), (3, .ref (B + 3)), (4, .int l4), (5, .int l5), (6, .int l6), (7, .int l7), (8, .int l8)] [] := by
  unfold f_Runner_gather_b96 at hf
  refine r_aload_n (x := some 34) (pc := 96) X dX7_gather_96 0 rfl ?_
  refine r_get (j := 0) (pc := 97) X ce_34 rfl inT7 (by decide) w_269 rfl dX7_gather_97 ?_
  refine r_iload (pc := 100) X dX7_gather_100 5 rfl ?_
  refine b_if_ne (tgt := 109) (pc := 102) X dX7_gather_102 (by decide) hf (fun hf => ?_) (fun hf => ?_)
  · refine r_iconst (v := 0) (pc := 105) X dX7_gather_105 (by decide) ?_
    refine r_goto (tgt := 117) (pc := 106) X dX7_gather_106 (by decide) ?_
    refine bnd hf (fun x11 h11 hf => ?_)
    refine r_callVv (As := [.int 0]) (st := []) (pc := 117) X (c_f_Tally_addr h11) rfl w_968 w_571 w_572 w_44 w_573 hdV_X8_add (Rc.s rfl ce_35) (by decide) (by decide) (by decide) (Nat.le_of_ble_eq_true rfl) dX7_gather_117 rfl ?_
    refine r_iinc (v := l7 + 1) (lv' := [(0, .ref (B + 34)), (1, .ref (B + 27)), (2, .int l2), (3, .ref (B + 3)), (4, .int l4), (5, .int l5), (6, .int l6), (7, .int (l7 + 1))]) (pc := 120) X dX7_gather_120 7 rfl rfl (by decide) [1, 2, 3, 4, 5, 6, 7, 0] rfl ?_
    refine r_goto (tgt := 46) (pc := 123) X dX7_gather_123 (by decide) ?_
    exact hK46 hf
  · refine r_aload_n (x := some 3) (pc := 109) X dX7_gather_109 3 rfl ?_
    refine r_iload (pc := 110) X dX7_gather_110 5 rfl ?_
    refine r_iload (pc := 112) X dX7_gather_112 8 rfl ?_
    refine bnd hf (fun x12 h12 hf => ?_)
    refine r_callVi (As := [.int l5, .int l8]) (st := [.ref (B + 35)]) (pc := 114) X (c_f_Logs_fieldOf h12) rfl w_962 w_556 w_557 w_37 w_558 hdV_X2_fieldOf (Rc.s rfl ce_3) (by decide) (by decide) (by decide) (Nat.le_of_ble_eq_true rfl) dX7_gather_114 rfl ?_
    refine bnd hf (fun x13 h13 hf => ?_)
    refine r_callVv (As := [.int x12.1]) (st := []) (pc := 117) X (c_f_Tally_addr h13) rfl w_968 w_571 w_572 w_44 w_573 hdV_X8_add (Rc.s rfl ce_35) (by decide) (by decide) (by decide) (Nat.le_of_ble_eq_true rfl) dX7_gather_117 rfl ?_
    refine r_iinc (v := l7 + 1) (lv' := [(0, .ref (B + 34)), (1, .ref (B + 27)), (2, .int l2), (3, .ref (B + 3)), (4, .int l4), (5, .int l5), (6, .int l6), (7, .int (l7 + 1))]) (pc := 120) X dX7_gather_120 7 rfl rfl (by decide) [1, 2, 3, 4, 5, 6, 7, 0] rfl ?_
    refine r_goto (tgt := 46) (pc := 123) X dX7_gather_123 (by decide) ?_
    exact hK46 hf
set_option maxHeartbeats 1000000 in
theorem c_f_Runner_gather_b46 {F : Nat} {Γ : Ga} {D : DD} {B : Nat} {r : Int32} {s' : St} (X : Cx Γ RX7 cX7_gather 9 D B { frames := 4, cells := 0, slots := 0, locals := 98 }) (hr : (Gme Γ).sig.returnType = (some .int)) : ∀ (n : Nat) {s : St} {l2 : Int32} {l4 : Int32} {l5 : Int32} {l6 : Int32} {l7 : Int32}, f_Runner_gather_b46 F n s l2 l4 l5 l6 l7 = some (r, s') → V Γ D B true 9 (QM Γ D B true s' (some (.int r)) 0 0) 0 0 s 46 [(0, .ref (B + 34)), (1, .ref (B + 27)), (2, .int l2), (3, .ref (B + 3)), (4, .int l4), (5, .int l5), (6, .int l6), (7, .int l7)] [] := by
  intro n
  induction n with
  | zero => intro s l2 l4 l5 l6 l7 hf; rw [f_Runner_gather_b46] at hf; cases hf
  | succ n ih =>
    intro s l2 l4 l5 l6 l7 hf
    rw [f_Runner_gather_b46] at hf
    refine r_iload (pc := 46) X dX7_gather_46 7 rfl ?_
    refine r_aload_n (x := some 3) (pc := 48) X dX7_gather_48 3 rfl ?_
    refine r_get (j := 9) (pc := 49) X ce_3 rfl inT2 (by decide) w_86 rfl dX7_gather_49 ?_
    refine b_icmp_ge (tgt := 126) (pc := 52) X dX7_gather_52 (by decide) hf (fun hf => ?_) (fun hf => ?_)
    · refine r_aload_n (x := some 34) (pc := 126) X dX7_gather_126 0 rfl ?_
      refine r_aload_n (x := some 34) (pc := 127) X dX7_gather_127 0 rfl ?_
      refine r_get (j := 0) (pc := 128) X ce_34 rfl inT7 (by decide) w_269 rfl dX7_gather_128 ?_
      refine r_aload_n (x := some 27) (pc := 131) X dX7_gather_131 1 rfl ?_
      refine r_iload_n (pc := 132) X dX7_gather_132 2 rfl ?_
      refine b_iald (pc := 133) X ce_27 dX7_gather_133 hf (fun j4 hf => ?_)
      refine bnd hf (fun x5 h5 hf => ?_)
      refine r_callVl (As := [.int (gA s 27 j4)]) (st := [.ref (B + 34)]) (pc := 134) X (c_f_Tally_resultr h5) rfl w_969 w_577 w_578 w_44 w_579 hdV_X8_result (Rc.s rfl ce_35) (by decide) (by decide) (by decide) (Nat.le_of_ble_eq_true rfl) dX7_gather_134 rfl ?_
      refine bnd hf (fun x6 h6 hf => ?_)
      refine r_callVv (As := [.long x5.1]) (st := []) (pc := 137) X (c_f_Runner_push h6) rfl w_956 w_958 w_33 w_45 w_959 hdV_X7_push (Rc.s rfl ce_34) (by decide) (by decide) (by decide) (Nat.le_of_ble_eq_true rfl) dX7_gather_137 rfl ?_
      refine r_iload (pc := 140) X dX7_gather_140 6 rfl ?_
      exact e_iret (pc := 142) X hr hf (Nat.le_refl _) (Nat.le_refl _) dX7_gather_142
    · refine r_iload (pc := 55) X dX7_gather_55 7 rfl ?_
      refine r_aload_n (x := some 3) (pc := 57) X dX7_gather_57 3 rfl ?_
      refine r_get (j := 7) (pc := 58) X ce_3 rfl inT2 (by decide) w_81 rfl dX7_gather_58 ?_
      refine r_alen (t0 := 1) (v := 100) (pc := 61) X ce_11 rfl (by decide) dX7_gather_61 ?_
      refine b_icmp_ge (tgt := 126) (pc := 62) X dX7_gather_62 (by decide) hf (fun hf => ?_) (fun hf => ?_)
      · refine r_aload_n (x := some 34) (pc := 126) X dX7_gather_126 0 rfl ?_
        refine r_aload_n (x := some 34) (pc := 127) X dX7_gather_127 0 rfl ?_
        refine r_get (j := 0) (pc := 128) X ce_34 rfl inT7 (by decide) w_269 rfl dX7_gather_128 ?_
        refine r_aload_n (x := some 27) (pc := 131) X dX7_gather_131 1 rfl ?_
        refine r_iload_n (pc := 132) X dX7_gather_132 2 rfl ?_
        refine b_iald (pc := 133) X ce_27 dX7_gather_133 hf (fun j7 hf => ?_)
        refine bnd hf (fun x8 h8 hf => ?_)
        refine r_callVl (As := [.int (gA s 27 j7)]) (st := [.ref (B + 34)]) (pc := 134) X (c_f_Tally_resultr h8) rfl w_969 w_577 w_578 w_44 w_579 hdV_X8_result (Rc.s rfl ce_35) (by decide) (by decide) (by decide) (Nat.le_of_ble_eq_true rfl) dX7_gather_134 rfl ?_
        refine bnd hf (fun x9 h9 hf => ?_)
        refine r_callVv (As := [.long x8.1]) (st := []) (pc := 137) X (c_f_Runner_push h9) rfl w_956 w_958 w_33 w_45 w_959 hdV_X7_push (Rc.s rfl ce_34) (by decide) (by decide) (by decide) (Nat.le_of_ble_eq_true rfl) dX7_gather_137 rfl ?_
        refine r_iload (pc := 140) X dX7_gather_140 6 rfl ?_
        exact e_iret (pc := 142) X hr hf (Nat.le_refl _) (Nat.le_refl _) dX7_gather_142
      · refine r_aload_n (x := some 3) (pc := 65) X dX7_gather_65 3 rfl ?_
        refine r_get (j := 7) (pc := 66) X ce_3 rfl inT2 (by decide) w_81 rfl dX7_gather_66 ?_
        refine r_iload (pc := 69) X dX7_gather_69 7 rfl ?_
        refine b_iald (pc := 71) X ce_11 dX7_gather_71 hf (fun j10 hf => ?_)
        refine r_istore (pc := 72) (lv' := [(0, .ref (B + 34)), (1, .ref (B + 27)), (2, .int l2), (3, .ref (B + 3)), (4, .int l4), (5, .int l5), (6, .int l6), (7, .int l7), (8, .int (gA s 11 j10))]) X dX7_gather_72 (by decide) [1, 2, 3, 4, 5, 6, 7, 8, 0] rfl ?_
        refine r_iload (pc := 74) X dX7_gather_74 4 rfl ?_
        refine r_iload (pc := 76) X dX7_gather_76 6 rfl ?_
        refine b_icmp_eq (tgt := 96) (pc := 78) X dX7_gather_78 (by decide) hf (fun hf => ?_) (fun hf => ?_)
        · exact c_f_Runner_gather_b96 X hr (fun hf => ih hf) hf
        · refine r_aload_n (x := some 34) (pc := 81) X dX7_gather_81 0 rfl ?_
          refine r_aload_n (x := some 27) (pc := 82) X dX7_gather_82 1 rfl ?_
          refine r_iload (pc := 83) X dX7_gather_83 4 rfl ?_
          refine r_iload (pc := 85) X dX7_gather_85 6 rfl ?_
          refine r_aload_n (x := some 3) (pc := 87) X dX7_gather_87 3 rfl ?_
          refine r_iload (pc := 88) X dX7_gather_88 8 rfl ?_
          refine bnd hf (fun x14 h14 hf => ?_)
          refine r_callVi (As := [.ref (B + 27), .int l4, .int l6, .ref (B + 3), .int (gA s 11 j10)]) (st := []) (pc := 90) X (c_f_Runner_holds h14) rfl w_948 w_950 w_31 w_45 w_951 hdV_X7_holds (Rc.s rfl ce_34) (by decide) (by decide) (by decide) (Nat.le_of_ble_eq_true rfl) dX7_gather_90 rfl ?_
          refine b_if_eq (tgt := 120) (pc := 93) X dX7_gather_93 (by decide) hf (fun hf => ?_) (fun hf => ?_)
          · refine r_iinc (v := l7 + 1) (lv' := [(0, .ref (B + 34)), (1, .ref (B + 27)), (2, .int l2), (3, .ref (B + 3)), (4, .int l4), (5, .int l5), (6, .int l6), (7, .int (l7 + 1))]) (pc := 120) X dX7_gather_120 7 rfl rfl (by decide) [1, 2, 3, 4, 5, 6, 7, 0] rfl ?_
            refine r_goto (tgt := 46) (pc := 123) X dX7_gather_123 (by decide) ?_
            exact ih hf
          · exact c_f_Runner_gather_b96 X hr (fun hf => ih hf) hf
set_option maxHeartbeats 1000000 in
theorem c_f_Runner_gather {F : Nat} {s : St} {p2 : Int32} {r : Int32} {s' : St} (hf : f_Runner_gather F s p2 = some (r, s')) : CC true yX7_gather (Cond.code yX7_gather cX7_gather 9 (some .int)) 4 98 (fun B => [.ref (B + 34), .ref (B + 27), .int p2, .ref (B + 3)]) s (fun B => (some (.int r))) s' 0 0 := by
  refine CC.of (fun B => [(0, .ref (B + 34)), (1, .ref (B + 27)), (2, .int p2), (3, .ref (B + 3))]) (by decide +kernel) (fun _ => rfl) (fun _ => (by simp [lg_sl, rfB_cat, catI, catL, catR])) (fun Γ D B X hr hin => ?_)
  have X : Cx Γ RX7 cX7_gather 9 D B { frames := 4, cells := 0, slots := 0, locals := 98 } := X
  unfold f_Runner_gather at hf
  refine r_iload_n (pc := 0) X dX7_gather_0 2 rfl ?_
  refine r_iconst (v := 3) (pc := 1) X dX7_gather_1 (by decide) ?_
  refine r_iadd (pc := 2) X dX7_gather_2 ?_
  refine r_istore (pc := 3) (lv' := [(0, .ref (B + 34)), (1, .ref (B + 27)), (2, .int p2), (3, .ref (B + 3)), (4, .int (p2 + 3))]) X dX7_gather_3 (by decide) [1, 2, 3, 4, 0] rfl ?_
  refine r_iload_n (pc := 5) X dX7_gather_5 2 rfl ?_
  refine b_if_lt (tgt := 16) (pc := 6) X dX7_gather_6 (by decide) hf (fun hf => ?_) (fun hf => ?_)
  · refine r_aload_n (x := some 27) (pc := 16) X dX7_gather_16 1 rfl ?_
    refine r_alen (t0 := 1) (v := 80) (pc := 17) X ce_27 rfl (by decide) dX7_gather_17 ?_
    exact e_iret (pc := 18) X hr hf (Nat.le_refl _) (Nat.le_refl _) dX7_gather_18
  · refine r_iload (pc := 9) X dX7_gather_9 4 rfl ?_
    refine r_aload_n (x := some 27) (pc := 11) X dX7_gather_11 1 rfl ?_
    refine r_alen (t0 := 1) (v := 80) (pc := 12) X ce_27 rfl (by decide) dX7_gather_12 ?_
    refine b_icmp_le (tgt := 19) (pc := 13) X dX7_gather_13 (by decide) hf (fun hf => ?_) (fun hf => ?_)
    · refine r_aload_n (x := some 27) (pc := 19) X dX7_gather_19 1 rfl ?_
      refine r_iload_n (pc := 20) X dX7_gather_20 2 rfl ?_
      refine r_iconst (v := 1) (pc := 21) X dX7_gather_21 (by decide) ?_
      refine r_iadd (pc := 22) X dX7_gather_22 ?_
      refine b_iald (pc := 23) X ce_27 dX7_gather_23 hf (fun j1 hf => ?_)
      refine r_istore (pc := 24) (lv' := [(0, .ref (B + 34)), (1, .ref (B + 27)), (2, .int p2), (3, .ref (B + 3)), (4, .int (p2 + 3)), (5, .int (gA s 27 j1))]) X dX7_gather_24 (by decide) [1, 2, 3, 4, 5, 0] rfl ?_
      refine r_iload (pc := 26) X dX7_gather_26 4 rfl ?_
      refine r_aload_n (x := some 27) (pc := 28) X dX7_gather_28 1 rfl ?_
      refine r_iload_n (pc := 29) X dX7_gather_29 2 rfl ?_
      refine r_iconst (v := 2) (pc := 30) X dX7_gather_30 (by decide) ?_
      refine r_iadd (pc := 31) X dX7_gather_31 ?_
      refine b_iald (pc := 32) X ce_27 dX7_gather_32 hf (fun j2 hf => ?_)
      refine r_iadd (pc := 33) X dX7_gather_33 ?_
      refine r_istore (pc := 34) (lv' := [(0, .ref (B + 34)), (1, .ref (B + 27)), (2, .int p2), (3, .ref (B + 3)), (4, .int (p2 + 3)), (5, .int (gA s 27 j1)), (6, .int ((p2 + 3) + (gA s 27 j2)))]) X dX7_gather_34 (by decide) [1, 2, 3, 4, 5, 6, 0] rfl ?_
      refine r_aload_n (x := some 34) (pc := 36) X dX7_gather_36 0 rfl ?_
      refine r_get (j := 0) (pc := 37) X ce_34 rfl inT7 (by decide) w_269 rfl dX7_gather_37 ?_
      refine bnd hf (fun x3 h3 hf => ?_)
      refine r_callVv (As := []) (st := []) (pc := 40) X (c_f_Tally_clearr h3) rfl w_947 w_567 w_568 w_44 w_569 hdV_X8_clear (Rc.s rfl ce_35) (by decide) (by decide) (by decide) (Nat.le_of_ble_eq_true rfl) dX7_gather_40 rfl ?_
      refine r_iconst (v := 0) (pc := 43) X dX7_gather_43 (by decide) ?_
      refine r_istore (pc := 44) (lv' := [(0, .ref (B + 34)), (1, .ref (B + 27)), (2, .int p2), (3, .ref (B + 3)), (4, .int (p2 + 3)), (5, .int (gA s 27 j1)), (6, .int ((p2 + 3) + (gA s 27 j2))), (7, .int 0)]) X dX7_gather_44 (by decide) [1, 2, 3, 4, 5, 6, 7, 0] rfl ?_
      exact c_f_Runner_gather_b46 X hr _ hf
    · refine r_aload_n (x := some 27) (pc := 16) X dX7_gather_16 1 rfl ?_
      refine r_alen (t0 := 1) (v := 80) (pc := 17) X ce_27 rfl (by decide) dX7_gather_17 ?_
      exact e_iret (pc := 18) X hr hf (Nat.le_refl _) (Nat.le_refl _) dX7_gather_18
/-! f_Runner_run -/
theorem dX7_run_0 : decode cX7_run 0 = .ok (.aload_n 0, 1) := by decide +kernel
theorem dX7_run_1 : decode cX7_run 1 = .ok (.iconst 0, 1) := by decide +kernel
theorem dX7_run_2 : decode cX7_run 2 = .ok (.putfield 22, 3) := by decide +kernel
theorem dX7_run_5 : decode cX7_run 5 = .ok (.iconst 0, 1) := by decide +kernel
theorem dX7_run_6 : decode cX7_run 6 = .ok (.istore 4, 2) := by decide +kernel
theorem dX7_run_8 : decode cX7_run 8 = .ok (.iconst 0, 1) := by decide +kernel
theorem dX7_run_9 : decode cX7_run 9 = .ok (.istore 5, 2) := by decide +kernel
theorem dX7_run_11 : decode cX7_run 11 = .ok (.iload 5, 2) := by decide +kernel
theorem dX7_run_13 : decode cX7_run 13 = .ok (.iload_n 2, 1) := by decide +kernel
theorem dX7_run_14 : decode cX7_run 14 = .ok (.if_icmp .ge 59, 3) := by decide +kernel
theorem dX7_run_17 : decode cX7_run 17 = .ok (.iload 4, 2) := by decide +kernel
theorem dX7_run_19 : decode cX7_run 19 = .ok (.ifCond .lt 54, 3) := by decide +kernel
theorem dX7_run_22 : decode cX7_run 22 = .ok (.iload 4, 2) := by decide +kernel
theorem dX7_run_24 : decode cX7_run 24 = .ok (.iload_n 2, 1) := by decide +kernel
theorem dX7_run_25 : decode cX7_run 25 = .ok (.if_icmp .ge 48, 3) := by decide +kernel
theorem dX7_run_28 : decode cX7_run 28 = .ok (.iload 4, 2) := by decide +kernel
theorem dX7_run_30 : decode cX7_run 30 = .ok (.aload_n 1, 1) := by decide +kernel
theorem dX7_run_31 : decode cX7_run 31 = .ok (.arraylength, 1) := by decide +kernel
theorem dX7_run_32 : decode cX7_run 32 = .ok (.if_icmp .ge 41, 3) := by decide +kernel
theorem dX7_run_35 : decode cX7_run 35 = .ok (.aload_n 1, 1) := by decide +kernel
theorem dX7_run_36 : decode cX7_run 36 = .ok (.iload 4, 2) := by decide +kernel
theorem dX7_run_38 : decode cX7_run 38 = .ok (.iaload, 1) := by decide +kernel
theorem dX7_run_39 : decode cX7_run 39 = .ok (.invokestatic 26, 3) := by decide +kernel
theorem dX7_run_42 : decode cX7_run 42 = .ok (.ifCond .eq 14, 3) := by decide +kernel
theorem dX7_run_45 : decode cX7_run 45 = .ok (.aload_n 0, 1) := by decide +kernel
theorem dX7_run_46 : decode cX7_run 46 = .ok (.aload_n 1, 1) := by decide +kernel
theorem dX7_run_47 : decode cX7_run 47 = .ok (.iload 4, 2) := by decide +kernel
theorem dX7_run_49 : decode cX7_run 49 = .ok (.aload_n 3, 1) := by decide +kernel
theorem dX7_run_50 : decode cX7_run 50 = .ok (.invokevirtual 30, 3) := by decide +kernel
theorem dX7_run_53 : decode cX7_run 53 = .ok (.goto 12, 3) := by decide +kernel
theorem dX7_run_56 : decode cX7_run 56 = .ok (.aload_n 0, 1) := by decide +kernel
theorem dX7_run_57 : decode cX7_run 57 = .ok (.aload_n 1, 1) := by decide +kernel
theorem dX7_run_58 : decode cX7_run 58 = .ok (.iload 4, 2) := by decide +kernel
theorem dX7_run_60 : decode cX7_run 60 = .ok (.aload_n 3, 1) := by decide +kernel
theorem dX7_run_61 : decode cX7_run 61 = .ok (.iconst (-1), 1) := by decide +kernel
theorem dX7_run_62 : decode cX7_run 62 = .ok (.invokevirtual 34, 3) := by decide +kernel
theorem dX7_run_65 : decode cX7_run 65 = .ok (.istore 4, 2) := by decide +kernel
theorem dX7_run_67 : decode cX7_run 67 = .ok (.iinc 5 1, 3) := by decide +kernel
theorem dX7_run_70 : decode cX7_run 70 = .ok (.goto (-59), 3) := by decide +kernel
theorem dX7_run_73 : decode cX7_run 73 = .ok (.aload_n 0, 1) := by decide +kernel
theorem dX7_run_74 : decode cX7_run 74 = .ok (.invokevirtual 38, 3) := by decide +kernel
theorem dX7_run_77 : decode cX7_run 77 = .ok (.lreturn, 1) := by decide +kernel
def f_Runner_run_b11 (F : Nat) : Nat → St → Int32 → Int32 → Int32 → Option (Int64 × St)
  | 0, _, _, _, _ => none
  | n + 1, s, l2, l4, l5 =>
    if l2 ≤ l5 then
      ((f_Runner_pull F s).bind fun x2 => (some (x2.1, x2.2)))
    else
      (if l4 < 0 then
        ((f_Runner_pull F s).bind fun x3 => (some (x3.1, x3.2)))
      else
        (if l2 ≤ l4 then
          ((f_Runner_pull F s).bind fun x4 => (some (x4.1, x4.2)))
        else
          (if 80 ≤ l4 then
            ((f_Runner_pull F s).bind fun x5 => (some (x5.1, x5.2)))
          else
            ((ix 80 l4).bind fun j6 => ((f_P_isAggregate F s (gA s 27 j6)).bind fun x7 => (if x7.1 = 0 then
              ((f_Runner_step F x7.2 l4 (-1)).bind fun x8 => (f_Runner_run_b11 F n x8.2 l2 x8.1 (l5 + 1)))
            else
              ((f_Runner_gather F x7.2 l4).bind fun x9 => (f_Runner_run_b11 F n x9.2 l2 x9.1 (l5 + 1)))))))))
def f_Runner_run (F : Nat) (s : St) (p2 : Int32) : Option (Int64 × St) :=
  lt (sI s 2178 0) fun s1 => (f_Runner_run_b11 F F s1 p2 0 0)
set_option maxHeartbeats 1000000 in
theorem c_f_Runner_run_b11 {F : Nat} {Γ : Ga} {D : DD} {B : Nat} {r : Int64} {s' : St} (X : Cx Γ RX7 cX7_run 6 D B { frames := 5, cells := 0, slots := 0, locals := 126 }) (hr : (Gme Γ).sig.returnType = (some .long)) : ∀ (n : Nat) {s : St} {l2 : Int32} {l4 : Int32} {l5 : Int32}, f_Runner_run_b11 F n s l2 l4 l5 = some (r, s') → V Γ D B true 6 (QM Γ D B true s' (some (.long r)) 0 0) 0 0 s 11 [(0, .ref (B + 34)), (1, .ref (B + 27)), (2, .int l2), (3, .ref (B + 3)), (4, .int l4), (5, .int l5)] [] := by
  intro n
  induction n with
  | zero => intro s l2 l4 l5 hf; rw [f_Runner_run_b11] at hf; cases hf
  | succ n ih =>
    intro s l2 l4 l5 hf
    rw [f_Runner_run_b11] at hf
    refine r_iload (pc := 11) X dX7_run_11 5 rfl ?_
    refine r_iload_n (pc := 13) X dX7_run_13 2 rfl ?_
    refine b_icmp_ge (tgt := 73) (pc := 14) X dX7_run_14 (by decide) hf (fun hf => ?_) (fun hf => ?_)
    · refine r_aload_n (x := some 34) (pc := 73) X dX7_run_73 0 rfl ?_
      refine bnd hf (fun x2 h2 hf => ?_)
      refine r_callVl (As := []) (st := []) (pc := 74) X (c_f_Runner_pull h2) rfl w_963 w_965 w_34 w_45 w_966 hdV_X7_pull (Rc.s rfl ce_34) (by decide) (by decide) (by decide) (Nat.le_of_ble_eq_true rfl) dX7_run_74 rfl ?_
      exact e_lret (pc := 77) X hr hf (Nat.le_refl _) (Nat.le_refl _) dX7_run_77
    · refine r_iload (pc := 17) X dX7_run_17 4 rfl ?_
      refine b_if_lt (tgt := 73) (pc := 19) X dX7_run_19 (by decide) hf (fun hf => ?_) (fun hf => ?_)
      · refine r_aload_n (x := some 34) (pc := 73) X dX7_run_73 0 rfl ?_
        refine bnd hf (fun x3 h3 hf => ?_)
        refine r_callVl (As := []) (st := []) (pc := 74) X (c_f_Runner_pull h3) rfl w_963 w_965 w_34 w_45 w_966 hdV_X7_pull (Rc.s rfl ce_34) (by decide) (by decide) (by decide) (Nat.le_of_ble_eq_true rfl) dX7_run_74 rfl ?_
        exact e_lret (pc := 77) X hr hf (Nat.le_refl _) (Nat.le_refl _) dX7_run_77
      · refine r_iload (pc := 22) X dX7_run_22 4 rfl ?_
        refine r_iload_n (pc := 24) X dX7_run_24 2 rfl ?_
        refine b_icmp_ge (tgt := 73) (pc := 25) X dX7_run_25 (by decide) hf (fun hf => ?_) (fun hf => ?_)
        · refine r_aload_n (x := some 34) (pc := 73) X dX7_run_73 0 rfl ?_
          refine bnd hf (fun x4 h4 hf => ?_)
          refine r_callVl (As := []) (st := []) (pc := 74) X (c_f_Runner_pull h4) rfl w_963 w_965 w_34 w_45 w_966 hdV_X7_pull (Rc.s rfl ce_34) (by decide) (by decide) (by decide) (Nat.le_of_ble_eq_true rfl) dX7_run_74 rfl ?_
          exact e_lret (pc := 77) X hr hf (Nat.le_refl _) (Nat.le_refl _) dX7_run_77
        · refine r_iload (pc := 28) X dX7_run_28 4 rfl ?_
          refine r_aload_n (x := some 27) (pc := 30) X dX7_run_30 1 rfl ?_
          refine r_alen (t0 := 1) (v := 80) (pc := 31) X ce_27 rfl (by decide) dX7_run_31 ?_
          refine b_icmp_ge (tgt := 73) (pc := 32) X dX7_run_32 (by decide) hf (fun hf => ?_) (fun hf => ?_)
          · refine r_aload_n (x := some 34) (pc := 73) X dX7_run_73 0 rfl ?_
            refine bnd hf (fun x5 h5 hf => ?_)
            refine r_callVl (As := []) (st := []) (pc := 74) X (c_f_Runner_pull h5) rfl w_963 w_965 w_34 w_45 w_966 hdV_X7_pull (Rc.s rfl ce_34) (by decide) (by decide) (by decide) (Nat.le_of_ble_eq_true rfl) dX7_run_74 rfl ?_
            exact e_lret (pc := 77) X hr hf (Nat.le_refl _) (Nat.le_refl _) dX7_run_77
          · refine r_aload_n (x := some 27) (pc := 35) X dX7_run_35 1 rfl ?_
            refine r_iload (pc := 36) X dX7_run_36 4 rfl ?_
            refine b_iald (pc := 38) X ce_27 dX7_run_38 hf (fun j6 hf => ?_)
            refine bnd hf (fun x7 h7 hf => ?_)
            refine r_callSNi (As := [.int (gA s 27 j6)]) (st := []) (pc := 39) X (c_f_P_isAggregate h7) rfl wn_942 w_560 w_36 w_561 hdS_X10_isAggregate (by decide) (by decide) (by decide) (Nat.le_of_ble_eq_true rfl) dX7_run_39 rfl ?_
            refine b_if_eq (tgt := 56) (pc := 42) X dX7_run_42 (by decide) hf (fun hf => ?_) (fun hf => ?_)
            · refine r_aload_n (x := some 34) (pc := 56) X dX7_run_56 0 rfl ?_
              refine r_aload_n (x := some 27) (pc := 57) X dX7_run_57 1 rfl ?_
              refine r_iload (pc := 58) X dX7_run_58 4 rfl ?_
              refine r_aload_n (x := some 3) (pc := 60) X dX7_run_60 3 rfl ?_
              refine r_iconst (v := -1) (pc := 61) X dX7_run_61 (by decide) ?_
              refine bnd hf (fun x8 h8 hf => ?_)
              refine r_callVi (As := [.ref (B + 27), .int l4, .ref (B + 3), .int (-1)]) (st := []) (pc := 62) X (c_f_Runner_step h8) rfl w_952 w_954 w_32 w_45 w_955 hdV_X7_step (Rc.s rfl ce_34) (by decide) (by decide) (by decide) (Nat.le_of_ble_eq_true rfl) dX7_run_62 rfl ?_
              refine r_istore (pc := 65) (lv' := [(0, .ref (B + 34)), (1, .ref (B + 27)), (2, .int l2), (3, .ref (B + 3)), (4, .int x8.1), (5, .int l5)]) X dX7_run_65 (by decide) [1, 2, 3, 4, 0, 5] rfl ?_
              refine r_iinc (v := l5 + 1) (lv' := [(0, .ref (B + 34)), (1, .ref (B + 27)), (2, .int l2), (3, .ref (B + 3)), (4, .int x8.1), (5, .int (l5 + 1))]) (pc := 67) X dX7_run_67 5 rfl rfl (by decide) [1, 2, 3, 4, 5, 0] rfl ?_
              refine r_goto (tgt := 11) (pc := 70) X dX7_run_70 (by decide) ?_
              exact ih hf
            · refine r_aload_n (x := some 34) (pc := 45) X dX7_run_45 0 rfl ?_
              refine r_aload_n (x := some 27) (pc := 46) X dX7_run_46 1 rfl ?_
              refine r_iload (pc := 47) X dX7_run_47 4 rfl ?_
              refine r_aload_n (x := some 3) (pc := 49) X dX7_run_49 3 rfl ?_
              refine bnd hf (fun x9 h9 hf => ?_)
              refine r_callVi (As := [.ref (B + 27), .int l4, .ref (B + 3)]) (st := []) (pc := 50) X (c_f_Runner_gather h9) rfl w_943 w_945 w_30 w_45 w_946 hdV_X7_gather (Rc.s rfl ce_34) (by decide) (by decide) (by decide) (Nat.le_of_ble_eq_true rfl) dX7_run_50 rfl ?_
              refine r_goto (tgt := 65) (pc := 53) X dX7_run_53 (by decide) ?_
              refine r_istore (pc := 65) (lv' := [(0, .ref (B + 34)), (1, .ref (B + 27)), (2, .int l2), (3, .ref (B + 3)), (4, .int x9.1), (5, .int l5)]) X dX7_run_65 (by decide) [1, 2, 3, 4, 0, 5] rfl ?_
              refine r_iinc (v := l5 + 1) (lv' := [(0, .ref (B + 34)), (1, .ref (B + 27)), (2, .int l2), (3, .ref (B + 3)), (4, .int x9.1), (5, .int (l5 + 1))]) (pc := 67) X dX7_run_67 5 rfl rfl (by decide) [1, 2, 3, 4, 5, 0] rfl ?_
              refine r_goto (tgt := 11) (pc := 70) X dX7_run_70 (by decide) ?_
              exact ih hf
set_option maxHeartbeats 1000000 in
theorem c_f_Runner_run {F : Nat} {s : St} {p2 : Int32} {r : Int64} {s' : St} (hf : f_Runner_run F s p2 = some (r, s')) : CC true yX7_run (Cond.code yX7_run cX7_run 6 (some .long)) 5 126 (fun B => [.ref (B + 34), .ref (B + 27), .int p2, .ref (B + 3)]) s (fun B => (some (.long r))) s' 0 0 := by
  refine CC.of (fun B => [(0, .ref (B + 34)), (1, .ref (B + 27)), (2, .int p2), (3, .ref (B + 3))]) (by decide +kernel) (fun _ => rfl) (fun _ => (by simp [lg_sl, rfB_cat, catI, catL, catR])) (fun Γ D B X hr hin => ?_)
  have X : Cx Γ RX7 cX7_run 6 D B { frames := 5, cells := 0, slots := 0, locals := 126 } := X
  unfold f_Runner_run at hf
  refine r_aload_n (x := some 34) (pc := 0) X dX7_run_0 0 rfl ?_
  refine r_iconst (v := 0) (pc := 1) X dX7_run_1 (by decide) ?_
  refine b_put (j := 2) (pc := 2) X ce_34 rfl inT7 tyX7 tyX7_ok nmX7 (by decide) w_271 rfl (tyX7_ok 2 (by decide)) rfl rfl (Nat.le_of_ble_eq_true rfl) (cp_2178 _) rfl rfl dX7_run_2 hf (fun s1 hf => ?_)
  refine r_iconst (v := 0) (pc := 5) X dX7_run_5 (by decide) ?_
  refine r_istore (pc := 6) (lv' := [(0, .ref (B + 34)), (1, .ref (B + 27)), (2, .int p2), (3, .ref (B + 3)), (4, .int 0)]) X dX7_run_6 (by decide) [1, 2, 3, 4, 0] rfl ?_
  refine r_iconst (v := 0) (pc := 8) X dX7_run_8 (by decide) ?_
  refine r_istore (pc := 9) (lv' := [(0, .ref (B + 34)), (1, .ref (B + 27)), (2, .int p2), (3, .ref (B + 3)), (4, .int 0), (5, .int 0)]) X dX7_run_9 (by decide) [1, 2, 3, 4, 5, 0] rfl ?_
  exact c_f_Runner_run_b11 X hr _ hf
/-! f_Tally_clearw -/
def f_Tally_clearw_b56 (F : Nat) (s : St)  : Option (St) :=
  lt (sI s 1985 0) fun s1 => (lt (sL s1 1986 0) fun s2 => (lt (sI s2 1987 0) fun s3 => (lt (sI s3 1988 0) fun s4 => (lt (sI s4 1989 0) fun s5 => (some s5)))))
def f_Tally_clearw_b2 (F : Nat) : Nat → St → Int32 → Option (St)
  | 0, _, _ => none
  | n + 1, s, l1 =>
    if (gI s 1985) ≤ l1 then
      (f_Tally_clearw_b56 F s)
    else
      (if 100 ≤ l1 then
        (f_Tally_clearw_b56 F s)
      else
        ((ix 100 l1).bind fun j6 => (if ((gA s 32 j6) + 1000) < 0 then
          (f_Tally_clearw_b2 F n s (l1 + 1))
        else
          (if 2001 ≤ ((gA s 32 j6) + 1000) then
            (f_Tally_clearw_b2 F n s (l1 + 1))
          else
            ((ix 2001 ((gA s 32 j6) + 1000)).bind fun j7 => (lt (sA s 33 j7 0) fun s8 => (f_Tally_clearw_b2 F n s8 (l1 + 1))))))))
def f_Tally_clearw (F : Nat) (s : St)  : Option (St) :=
  f_Tally_clearw_b2 F F s 0
set_option maxHeartbeats 1000000 in
theorem c_f_Tally_clearw_b56 {F : Nat} {Γ : Ga} {D : DD} {B : Nat} {s' : St} (X : Cx Γ RX8 cX8_clear 3 D B { frames := 0, cells := 0, slots := 0, locals := 0 }) (hr : (Gme Γ).sig.returnType = none) {s : St}  (hf : f_Tally_clearw_b56 F s  = some s') : V Γ D B true 3 (QM Γ D B true s' none 0 0) 0 0 s 56 [(0, .ref (B + 31))] [] := by
  unfold f_Tally_clearw_b56 at hf
  refine r_aload_n (x := some 31) (pc := 56) X dX8_clear_56 0 rfl ?_
  refine r_iconst (v := 0) (pc := 57) X dX8_clear_57 (by decide) ?_
  refine b_put (j := 1) (pc := 58) X ce_31 rfl inT8 tyX8 tyX8_ok nmX8 (by decide) w_236 rfl (tyX8_ok 1 (by decide)) rfl rfl (Nat.le_of_ble_eq_true rfl) (cp_1985 _) rfl rfl dX8_clear_58 hf (fun s1 hf => ?_)
  refine r_aload_n (x := some 31) (pc := 61) X dX8_clear_61 0 rfl ?_
  refine r_lconst (v := 0) (pc := 62) X dX8_clear_62 (by decide) ?_
  refine b_put (j := 2) (pc := 63) X ce_31 rfl inT8 tyX8 tyX8_ok nmX8 (by decide) w_237 rfl (tyX8_ok 2 (by decide)) rfl rfl (Nat.le_of_ble_eq_true rfl) (cp_1986 _) rfl rfl dX8_clear_63 hf (fun s2 hf => ?_)
  refine r_aload_n (x := some 31) (pc := 66) X dX8_clear_66 0 rfl ?_
  refine r_iconst (v := 0) (pc := 67) X dX8_clear_67 (by decide) ?_
  refine b_put (j := 3) (pc := 68) X ce_31 rfl inT8 tyX8 tyX8_ok nmX8 (by decide) w_238 rfl (tyX8_ok 3 (by decide)) rfl rfl (Nat.le_of_ble_eq_true rfl) (cp_1987 _) rfl rfl dX8_clear_68 hf (fun s3 hf => ?_)
  refine r_aload_n (x := some 31) (pc := 71) X dX8_clear_71 0 rfl ?_
  refine r_iconst (v := 0) (pc := 72) X dX8_clear_72 (by decide) ?_
  refine b_put (j := 4) (pc := 73) X ce_31 rfl inT8 tyX8 tyX8_ok nmX8 (by decide) w_239 rfl (tyX8_ok 4 (by decide)) rfl rfl (Nat.le_of_ble_eq_true rfl) (cp_1988 _) rfl rfl dX8_clear_73 hf (fun s4 hf => ?_)
  refine r_aload_n (x := some 31) (pc := 76) X dX8_clear_76 0 rfl ?_
  refine r_iconst (v := 0) (pc := 77) X dX8_clear_77 (by decide) ?_
  refine b_put (j := 5) (pc := 78) X ce_31 rfl inT8 tyX8 tyX8_ok nmX8 (by decide) w_240 rfl (tyX8_ok 5 (by decide)) rfl rfl (Nat.le_of_ble_eq_true rfl) (cp_1989 _) rfl rfl dX8_clear_78 hf (fun s5 hf => ?_)
  exact e_vret (pc := 81) X hr hf (Nat.le_refl _) (Nat.le_refl _) dX8_clear_81
set_option maxHeartbeats 1000000 in
theorem c_f_Tally_clearw_b2 {F : Nat} {Γ : Ga} {D : DD} {B : Nat} {s' : St} (X : Cx Γ RX8 cX8_clear 3 D B { frames := 0, cells := 0, slots := 0, locals := 0 }) (hr : (Gme Γ).sig.returnType = none) : ∀ (n : Nat) {s : St} {l1 : Int32}, f_Tally_clearw_b2 F n s l1 = some s' → V Γ D B true 3 (QM Γ D B true s' none 0 0) 0 0 s 2 [(0, .ref (B + 31)), (1, .int l1)] [] := by
  intro n
  induction n with
  | zero => intro s l1 hf; rw [f_Tally_clearw_b2] at hf; cases hf
  | succ n ih =>
    intro s l1 hf
    rw [f_Tally_clearw_b2] at hf
    refine r_iload_n (pc := 2) X dX8_clear_2 1 rfl ?_
    refine r_aload_n (x := some 31) (pc := 3) X dX8_clear_3 0 rfl ?_
    refine r_get (j := 1) (pc := 4) X ce_31 rfl inT8 (by decide) w_236 rfl dX8_clear_4 ?_
    refine b_icmp_ge (tgt := 56) (pc := 7) X dX8_clear_7 (by decide) hf (fun hf => ?_) (fun hf => ?_)
    · refine r_forget (lv' := [(0, .ref (B + 31))]) [0] rfl ?_
      exact c_f_Tally_clearw_b56 X hr hf
    · refine r_iload_n (pc := 10) X dX8_clear_10 1 rfl ?_
      refine r_aload_n (x := some 31) (pc := 11) X dX8_clear_11 0 rfl ?_
      refine r_get (j := 0) (pc := 12) X ce_31 rfl inT8 (by decide) w_235 rfl dX8_clear_12 ?_
      refine r_alen (t0 := 1) (v := 100) (pc := 15) X ce_32 rfl (by decide) dX8_clear_15 ?_
      refine b_icmp_ge (tgt := 56) (pc := 16) X dX8_clear_16 (by decide) hf (fun hf => ?_) (fun hf => ?_)
      · refine r_forget (lv' := [(0, .ref (B + 31))]) [0] rfl ?_
        exact c_f_Tally_clearw_b56 X hr hf
      · refine r_aload_n (x := some 31) (pc := 19) X dX8_clear_19 0 rfl ?_
        refine r_get (j := 0) (pc := 20) X ce_31 rfl inT8 (by decide) w_235 rfl dX8_clear_20 ?_
        refine r_iload_n (pc := 23) X dX8_clear_23 1 rfl ?_
        refine b_iald (pc := 24) X ce_32 dX8_clear_24 hf (fun j6 hf => ?_)
        refine r_sipush (v := 1000) (pc := 25) X dX8_clear_25 (by decide) ?_
        refine r_iadd (pc := 28) X dX8_clear_28 ?_
        refine r_istore_n (pc := 29) (lv' := [(0, .ref (B + 31)), (1, .int l1), (2, .int ((gA s 32 j6) + 1000))]) X dX8_clear_29 (by decide) [1, 2, 0] rfl ?_
        refine r_iload_n (pc := 30) X dX8_clear_30 2 rfl ?_
        refine b_if_lt (tgt := 50) (pc := 31) X dX8_clear_31 (by decide) hf (fun hf => ?_) (fun hf => ?_)
        · refine r_iinc (v := l1 + 1) (lv' := [(0, .ref (B + 31)), (1, .int (l1 + 1))]) (pc := 50) X dX8_clear_50 1 rfl rfl (by decide) [1, 0] rfl ?_
          refine r_goto (tgt := 2) (pc := 53) X dX8_clear_53 (by decide) ?_
          exact ih hf
        · refine r_iload_n (pc := 34) X dX8_clear_34 2 rfl ?_
          refine r_aload_n (x := some 31) (pc := 35) X dX8_clear_35 0 rfl ?_
          refine r_get (j := 6) (pc := 36) X ce_31 rfl inT8 (by decide) w_241 rfl dX8_clear_36 ?_
          refine r_alen (t0 := 1) (v := 2001) (pc := 39) X ce_33 rfl (by decide) dX8_clear_39 ?_
          refine b_icmp_ge (tgt := 50) (pc := 40) X dX8_clear_40 (by decide) hf (fun hf => ?_) (fun hf => ?_)
          · refine r_iinc (v := l1 + 1) (lv' := [(0, .ref (B + 31)), (1, .int (l1 + 1))]) (pc := 50) X dX8_clear_50 1 rfl rfl (by decide) [1, 0] rfl ?_
            refine r_goto (tgt := 2) (pc := 53) X dX8_clear_53 (by decide) ?_
            exact ih hf
          · refine r_aload_n (x := some 31) (pc := 43) X dX8_clear_43 0 rfl ?_
            refine r_get (j := 6) (pc := 44) X ce_31 rfl inT8 (by decide) w_241 rfl dX8_clear_44 ?_
            refine r_iload_n (pc := 47) X dX8_clear_47 2 rfl ?_
            refine r_iconst (v := 0) (pc := 48) X dX8_clear_48 (by decide) ?_
            refine b_iast (pc := 49) X ce_33 (fun _ => ca_33 _ _) dX8_clear_49 hf (fun j7 s8 hf => ?_)
            refine r_iinc (v := l1 + 1) (lv' := [(0, .ref (B + 31)), (1, .int (l1 + 1))]) (pc := 50) X dX8_clear_50 1 rfl rfl (by decide) [1, 0] rfl ?_
            refine r_goto (tgt := 2) (pc := 53) X dX8_clear_53 (by decide) ?_
            exact ih hf
set_option maxHeartbeats 1000000 in
theorem c_f_Tally_clearw {F : Nat} {s : St}  {s' : St} (hf : f_Tally_clearw F s  = some s') : CC true yX8_clear (Cond.code yX8_clear cX8_clear 3 none) 0 0 (fun B => [.ref (B + 31)]) s (fun B => none) s' 0 0 := by
  refine CC.of (fun B => [(0, .ref (B + 31))]) (by decide +kernel) (fun _ => rfl) (fun _ => (by simp [lg_sl, rfB_cat, catI, catL, catR])) (fun Γ D B X hr hin => ?_)
  have X : Cx Γ RX8 cX8_clear 3 D B { frames := 0, cells := 0, slots := 0, locals := 0 } := X
  unfold f_Tally_clearw at hf
  refine r_iconst (v := 0) (pc := 0) X dX8_clear_0 (by decide) ?_
  refine r_istore_n (pc := 1) (lv' := [(0, .ref (B + 31)), (1, .int 0)]) X dX8_clear_1 (by decide) [1, 0] rfl ?_
  exact c_f_Tally_clearw_b2 X hr _ hf
/-! f_Tally_addw -/
def f_Tally_addw_b115 (F : Nat) (s : St) (l1 : Int32) (l2 : Int32) (t1 : Int32) (t2 : Int32) : Option (St) :=
  lt (sI s 1989 (t1 + t2)) fun s5 => ((ix 2001 l2).bind fun j6 => ((ix 2001 l2).bind fun j7 => (lt (sA s5 33 j7 ((gA s5 33 j6) + 1)) fun s8 => ((ix 100 (gI s8 1985)).bind fun j9 => (lt (sA s8 32 j9 l1) fun s10 => (lt (sI s10 1985 ((gI s10 1985) + 1)) fun s11 => (some s11)))))))
def f_Tally_addw_b70 (F : Nat) (s : St) (l1 : Int32) (l2 : Int32) (t1 : Int32) : Option (St) :=
  lt (sI s 1987 t1) fun s2 => (if (gI s2 1985) = 0 then
    (lt (sI s2 1988 l1) fun s3 => ((ix 2001 l2).bind fun j4 => (if (gA s3 33 j4) = 0 then
      (f_Tally_addw_b115 F s3 l1 l2 (gI s3 1989) 1)
    else
      (f_Tally_addw_b115 F s3 l1 l2 (gI s3 1989) 0))))
  else
    (lt (sI s2 1988 (if (gI s2 1988) < l1 then l1 else (gI s2 1988))) fun s12 => ((ix 2001 l2).bind fun j13 => (if (gA s12 33 j13) = 0 then
      (f_Tally_addw_b115 F s12 l1 l2 (gI s12 1989) 1)
    else
      (f_Tally_addw_b115 F s12 l1 l2 (gI s12 1989) 0)))))
def f_Tally_addw (F : Nat) (s : St) (p1 : Int32) : Option (St) :=
  if (p1 + 1000) < 0 then
    (some s)
  else
    (if 2001 ≤ (p1 + 1000) then
      (some s)
    else
      (if (gI s 1985) < 0 then
        (some s)
      else
        (if (gI s 1985) < 100 then
          (lt (sL s 1986 ((gL s 1986) + p1.toInt64)) fun s1 => (if (gI s1 1985) = 0 then
            (f_Tally_addw_b70 F s1 p1 (p1 + 1000) p1)
          else
            (f_Tally_addw_b70 F s1 p1 (p1 + 1000) (if p1 < (gI s1 1987) then p1 else (gI s1 1987)))))
        else
          (some s))))
set_option maxHeartbeats 1000000 in
theorem c_f_Tally_addw_b115 {F : Nat} {Γ : Ga} {D : DD} {B : Nat} {s' : St} (X : Cx Γ RX8 cX8_add 3 D B { frames := 1, cells := 0, slots := 0, locals := 14 }) (hr : (Gme Γ).sig.returnType = none) {s : St} {l1 : Int32} {l2 : Int32} {t1 : Int32} {t2 : Int32} (hf : f_Tally_addw_b115 F s l1 l2 t1 t2 = some s') : V Γ D B true 3 (QM Γ D B true s' none 0 0) 0 0 s 115 [(0, .ref (B + 31)), (1, .int l1), (2, .int l2)] [.int t2, .int t1, .ref (B + 31)] := by
  unfold f_Tally_addw_b115 at hf
  refine r_iadd (pc := 115) X dX8_add_115 ?_
  refine b_put (j := 5) (pc := 116) X ce_31 rfl inT8 tyX8 tyX8_ok nmX8 (by decide) w_240 rfl (tyX8_ok 5 (by decide)) rfl rfl (Nat.le_of_ble_eq_true rfl) (cp_1989 _) rfl rfl dX8_add_116 hf (fun s5 hf => ?_)
  refine r_aload_n (x := some 31) (pc := 119) X dX8_add_119 0 rfl ?_
  refine r_get (j := 6) (pc := 120) X ce_31 rfl inT8 (by decide) w_241 rfl dX8_add_120 ?_
  refine r_iload_n (pc := 123) X dX8_add_123 2 rfl ?_
  refine r_dup2 (pc := 124) X dX8_add_124 rfl rfl ?_
  refine b_iald (pc := 125) X ce_33 dX8_add_125 hf (fun j6 hf => ?_)
  refine r_iconst (v := 1) (pc := 126) X dX8_add_126 (by decide) ?_
  refine r_iadd (pc := 127) X dX8_add_127 ?_
  refine b_iast (pc := 128) X ce_33 (fun _ => ca_33 _ _) dX8_add_128 hf (fun j7 s8 hf => ?_)
  refine r_aload_n (x := some 31) (pc := 129) X dX8_add_129 0 rfl ?_
  refine r_get (j := 0) (pc := 130) X ce_31 rfl inT8 (by decide) w_235 rfl dX8_add_130 ?_
  refine r_aload_n (x := some 31) (pc := 133) X dX8_add_133 0 rfl ?_
  refine r_get (j := 1) (pc := 134) X ce_31 rfl inT8 (by decide) w_236 rfl dX8_add_134 ?_
  refine r_iload_n (pc := 137) X dX8_add_137 1 rfl ?_
  refine b_iast (pc := 138) X ce_32 (fun _ => ca_32 _ _) dX8_add_138 hf (fun j9 s10 hf => ?_)
  refine r_aload_n (x := some 31) (pc := 139) X dX8_add_139 0 rfl ?_
  refine r_dup (pc := 140) X dX8_add_140 rfl ?_
  refine r_get (j := 1) (pc := 141) X ce_31 rfl inT8 (by decide) w_236 rfl dX8_add_141 ?_
  refine r_iconst (v := 1) (pc := 144) X dX8_add_144 (by decide) ?_
  refine r_iadd (pc := 145) X dX8_add_145 ?_
  refine b_put (j := 1) (pc := 146) X ce_31 rfl inT8 tyX8 tyX8_ok nmX8 (by decide) w_236 rfl (tyX8_ok 1 (by decide)) rfl rfl (Nat.le_of_ble_eq_true rfl) (cp_1985 _) rfl rfl dX8_add_146 hf (fun s11 hf => ?_)
  exact e_vret (pc := 149) X hr hf (Nat.le_refl _) (Nat.le_refl _) dX8_add_149
set_option maxHeartbeats 1000000 in
theorem c_f_Tally_addw_b70 {F : Nat} {Γ : Ga} {D : DD} {B : Nat} {s' : St} (X : Cx Γ RX8 cX8_add 3 D B { frames := 1, cells := 0, slots := 0, locals := 14 }) (hr : (Gme Γ).sig.returnType = none) {s : St} {l1 : Int32} {l2 : Int32} {t1 : Int32} (hf : f_Tally_addw_b70 F s l1 l2 t1 = some s') : V Γ D B true 3 (QM Γ D B true s' none 0 0) 0 0 s 70 [(0, .ref (B + 31)), (1, .int l1), (2, .int l2)] [.int t1, .ref (B + 31)] := by
  unfold f_Tally_addw_b70 at hf
  refine b_put (j := 3) (pc := 70) X ce_31 rfl inT8 tyX8 tyX8_ok nmX8 (by decide) w_238 rfl (tyX8_ok 3 (by decide)) rfl rfl (Nat.le_of_ble_eq_true rfl) (cp_1987 _) rfl rfl dX8_add_70 hf (fun s2 hf => ?_)
  refine r_aload_n (x := some 31) (pc := 73) X dX8_add_73 0 rfl ?_
  refine r_aload_n (x := some 31) (pc := 74) X dX8_add_74 0 rfl ?_
  refine r_get (j := 1) (pc := 75) X ce_31 rfl inT8 (by decide) w_236 rfl dX8_add_75 ?_
  refine b_if_ne (tgt := 85) (pc := 78) X dX8_add_78 (by decide) hf (fun hf => ?_) (fun hf => ?_)
  · refine r_iload_n (pc := 81) X dX8_add_81 1 rfl ?_
    refine r_goto (tgt := 93) (pc := 82) X dX8_add_82 (by decide) ?_
    refine b_put (j := 4) (pc := 93) X ce_31 rfl inT8 tyX8 tyX8_ok nmX8 (by decide) w_239 rfl (tyX8_ok 4 (by decide)) rfl rfl (Nat.le_of_ble_eq_true rfl) (cp_1988 _) rfl rfl dX8_add_93 hf (fun s3 hf => ?_)
    refine r_aload_n (x := some 31) (pc := 96) X dX8_add_96 0 rfl ?_
    refine r_dup (pc := 97) X dX8_add_97 rfl ?_
    refine r_get (j := 5) (pc := 98) X ce_31 rfl inT8 (by decide) w_240 rfl dX8_add_98 ?_
    refine r_aload_n (x := some 31) (pc := 101) X dX8_add_101 0 rfl ?_
    refine r_get (j := 6) (pc := 102) X ce_31 rfl inT8 (by decide) w_241 rfl dX8_add_102 ?_
    refine r_iload_n (pc := 105) X dX8_add_105 2 rfl ?_
    refine b_iald (pc := 106) X ce_33 dX8_add_106 hf (fun j4 hf => ?_)
    refine b_if_ne (tgt := 114) (pc := 107) X dX8_add_107 (by decide) hf (fun hf => ?_) (fun hf => ?_)
    · refine r_iconst (v := 1) (pc := 110) X dX8_add_110 (by decide) ?_
      refine r_goto (tgt := 115) (pc := 111) X dX8_add_111 (by decide) ?_
      exact c_f_Tally_addw_b115 X hr hf
    · refine r_iconst (v := 0) (pc := 114) X dX8_add_114 (by decide) ?_
      exact c_f_Tally_addw_b115 X hr hf
  · refine r_aload_n (x := some 31) (pc := 85) X dX8_add_85 0 rfl ?_
    refine r_get (j := 4) (pc := 86) X ce_31 rfl inT8 (by decide) w_239 rfl dX8_add_86 ?_
    refine r_iload_n (pc := 89) X dX8_add_89 1 rfl ?_
    refine r_max (pc := 90) X w_575 w_508 w_51 w_maxcode ⟨Nat.le_of_ble_eq_true rfl, Nat.le_of_ble_eq_true rfl⟩ (by decide) (by decide) dX8_add_90 ?_
    refine b_put (j := 4) (pc := 93) X ce_31 rfl inT8 tyX8 tyX8_ok nmX8 (by decide) w_239 rfl (tyX8_ok 4 (by decide)) rfl rfl (Nat.le_of_ble_eq_true rfl) (cp_1988 _) rfl rfl dX8_add_93 hf (fun s12 hf => ?_)
    refine r_aload_n (x := some 31) (pc := 96) X dX8_add_96 0 rfl ?_
    refine r_dup (pc := 97) X dX8_add_97 rfl ?_
    refine r_get (j := 5) (pc := 98) X ce_31 rfl inT8 (by decide) w_240 rfl dX8_add_98 ?_
    refine r_aload_n (x := some 31) (pc := 101) X dX8_add_101 0 rfl ?_
    refine r_get (j := 6) (pc := 102) X ce_31 rfl inT8 (by decide) w_241 rfl dX8_add_102 ?_
    refine r_iload_n (pc := 105) X dX8_add_105 2 rfl ?_
    refine b_iald (pc := 106) X ce_33 dX8_add_106 hf (fun j13 hf => ?_)
    refine b_if_ne (tgt := 114) (pc := 107) X dX8_add_107 (by decide) hf (fun hf => ?_) (fun hf => ?_)
    · refine r_iconst (v := 1) (pc := 110) X dX8_add_110 (by decide) ?_
      refine r_goto (tgt := 115) (pc := 111) X dX8_add_111 (by decide) ?_
      exact c_f_Tally_addw_b115 X hr hf
    · refine r_iconst (v := 0) (pc := 114) X dX8_add_114 (by decide) ?_
      exact c_f_Tally_addw_b115 X hr hf
set_option maxHeartbeats 1000000 in
theorem c_f_Tally_addw {F : Nat} {s : St} {p1 : Int32} {s' : St} (hf : f_Tally_addw F s p1 = some s') : CC true yX8_add (Cond.code yX8_add cX8_add 3 none) 1 14 (fun B => [.ref (B + 31), .int p1]) s (fun B => none) s' 0 0 := by
  refine CC.of (fun B => [(0, .ref (B + 31)), (1, .int p1)]) (by decide +kernel) (fun _ => rfl) (fun _ => (by simp [lg_sl, rfB_cat, catI, catL, catR])) (fun Γ D B X hr hin => ?_)
  have X : Cx Γ RX8 cX8_add 3 D B { frames := 1, cells := 0, slots := 0, locals := 14 } := X
  unfold f_Tally_addw at hf
  refine r_iload_n (pc := 0) X dX8_add_0 1 rfl ?_
  refine r_sipush (v := 1000) (pc := 1) X dX8_add_1 (by decide) ?_
  refine r_iadd (pc := 4) X dX8_add_4 ?_
  refine r_istore_n (pc := 5) (lv' := [(0, .ref (B + 31)), (1, .int p1), (2, .int (p1 + 1000))]) X dX8_add_5 (by decide) [1, 2, 0] rfl ?_
  refine r_iload_n (pc := 6) X dX8_add_6 2 rfl ?_
  refine b_if_lt (tgt := 38) (pc := 7) X dX8_add_7 (by decide) hf (fun hf => ?_) (fun hf => ?_)
  · exact e_vret (pc := 38) X hr hf (Nat.le_refl _) (Nat.le_refl _) dX8_add_38
  · refine r_iload_n (pc := 10) X dX8_add_10 2 rfl ?_
    refine r_aload_n (x := some 31) (pc := 11) X dX8_add_11 0 rfl ?_
    refine r_get (j := 6) (pc := 12) X ce_31 rfl inT8 (by decide) w_241 rfl dX8_add_12 ?_
    refine r_alen (t0 := 1) (v := 2001) (pc := 15) X ce_33 rfl (by decide) dX8_add_15 ?_
    refine b_icmp_ge (tgt := 38) (pc := 16) X dX8_add_16 (by decide) hf (fun hf => ?_) (fun hf => ?_)
    · exact e_vret (pc := 38) X hr hf (Nat.le_refl _) (Nat.le_refl _) dX8_add_38
    · refine r_aload_n (x := some 31) (pc := 19) X dX8_add_19 0 rfl ?_
      refine r_get (j := 1) (pc := 20) X ce_31 rfl inT8 (by decide) w_236 rfl dX8_add_20 ?_
      refine b_if_lt (tgt := 38) (pc := 23) X dX8_add_23 (by decide) hf (fun hf => ?_) (fun hf => ?_)
      · exact e_vret (pc := 38) X hr hf (Nat.le_refl _) (Nat.le_refl _) dX8_add_38
      · refine r_aload_n (x := some 31) (pc := 26) X dX8_add_26 0 rfl ?_
        refine r_get (j := 1) (pc := 27) X ce_31 rfl inT8 (by decide) w_236 rfl dX8_add_27 ?_
        refine r_aload_n (x := some 31) (pc := 30) X dX8_add_30 0 rfl ?_
        refine r_get (j := 0) (pc := 31) X ce_31 rfl inT8 (by decide) w_235 rfl dX8_add_31 ?_
        refine r_alen (t0 := 1) (v := 100) (pc := 34) X ce_32 rfl (by decide) dX8_add_34 ?_
        refine b_icmp_lt (tgt := 39) (pc := 35) X dX8_add_35 (by decide) hf (fun hf => ?_) (fun hf => ?_)
        · refine r_aload_n (x := some 31) (pc := 39) X dX8_add_39 0 rfl ?_
          refine r_dup (pc := 40) X dX8_add_40 rfl ?_
          refine r_get (j := 2) (pc := 41) X ce_31 rfl inT8 (by decide) w_237 rfl dX8_add_41 ?_
          refine r_iload_n (pc := 44) X dX8_add_44 1 rfl ?_
          refine r_i2l (pc := 45) X dX8_add_45 ?_
          refine r_ladd (pc := 46) X dX8_add_46 ?_
          refine b_put (j := 2) (pc := 47) X ce_31 rfl inT8 tyX8 tyX8_ok nmX8 (by decide) w_237 rfl (tyX8_ok 2 (by decide)) rfl rfl (Nat.le_of_ble_eq_true rfl) (cp_1986 _) rfl rfl dX8_add_47 hf (fun s1 hf => ?_)
          refine r_aload_n (x := some 31) (pc := 50) X dX8_add_50 0 rfl ?_
          refine r_aload_n (x := some 31) (pc := 51) X dX8_add_51 0 rfl ?_
          refine r_get (j := 1) (pc := 52) X ce_31 rfl inT8 (by decide) w_236 rfl dX8_add_52 ?_
          refine b_if_ne (tgt := 62) (pc := 55) X dX8_add_55 (by decide) hf (fun hf => ?_) (fun hf => ?_)
          · refine r_iload_n (pc := 58) X dX8_add_58 1 rfl ?_
            refine r_goto (tgt := 70) (pc := 59) X dX8_add_59 (by decide) ?_
            exact c_f_Tally_addw_b70 X hr hf
          · refine r_aload_n (x := some 31) (pc := 62) X dX8_add_62 0 rfl ?_
            refine r_get (j := 3) (pc := 63) X ce_31 rfl inT8 (by decide) w_238 rfl dX8_add_63 ?_
            refine r_iload_n (pc := 66) X dX8_add_66 1 rfl ?_
            refine r_min (pc := 67) X w_574 w_540 w_51 w_mincode ⟨Nat.le_of_ble_eq_true rfl, Nat.le_of_ble_eq_true rfl⟩ (by decide) (by decide) dX8_add_67 ?_
            exact c_f_Tally_addw_b70 X hr hf
        · exact e_vret (pc := 38) X hr hf (Nat.le_refl _) (Nat.le_refl _) dX8_add_38
/-! f_Tally_mostOftenw -/
def f_Tally_mostOftenw_b7 (F : Nat) : Nat → St → Int32 → Int64 → Int32 → Option (Int64 × St)
  | 0, _, _, _, _ => none
  | n + 1, s, l1, l2, l4 =>
    if (gI s 1985) ≤ l4 then
      (some (l2, s))
    else
      (if 100 ≤ l4 then
        (some (l2, s))
      else
        ((ix 100 l4).bind fun j1 => (if ((gA s 32 j1) + 1000) < 0 then
          (f_Tally_mostOftenw_b7 F n s l1 l2 (l4 + 1))
        else
          (if 2001 ≤ ((gA s 32 j1) + 1000) then
            (f_Tally_mostOftenw_b7 F n s l1 l2 (l4 + 1))
          else
            ((ix 2001 ((gA s 32 j1) + 1000)).bind fun j2 => (if (gA s 33 j2) ≤ l1 then
              (f_Tally_mostOftenw_b7 F n s l1 l2 (l4 + 1))
            else
              ((ix 2001 ((gA s 32 j1) + 1000)).bind fun j3 => ((ix 100 l4).bind fun j4 => (f_Tally_mostOftenw_b7 F n s (gA s 33 j3) ((gA s 32 j4).toInt64) (l4 + 1))))))))))
def f_Tally_mostOftenw (F : Nat) (s : St)  : Option (Int64 × St) :=
  f_Tally_mostOftenw_b7 F F s 0 0 0
set_option maxHeartbeats 1000000 in
theorem c_f_Tally_mostOftenw_b7 {F : Nat} {Γ : Ga} {D : DD} {B : Nat} {r : Int64} {s' : St} (X : Cx Γ RX8 cX8_mostOften 6 D B { frames := 0, cells := 0, slots := 0, locals := 0 }) (hr : (Gme Γ).sig.returnType = (some .long)) : ∀ (n : Nat) {s : St} {l1 : Int32} {l2 : Int64} {l4 : Int32}, f_Tally_mostOftenw_b7 F n s l1 l2 l4 = some (r, s') → V Γ D B true 6 (QM Γ D B true s' (some (.long r)) 0 0) 0 0 s 7 [(0, .ref (B + 31)), (1, .int l1), (2, .long l2), (4, .int l4)] [] := by
  intro n
  induction n with
  | zero => intro s l1 l2 l4 hf; rw [f_Tally_mostOftenw_b7] at hf; cases hf
  | succ n ih =>
    intro s l1 l2 l4 hf
    rw [f_Tally_mostOftenw_b7] at hf
    refine r_iload (pc := 7) X dX8_mostOften_7 3 rfl ?_
    refine r_aload_n (x := some 31) (pc := 9) X dX8_mostOften_9 0 rfl ?_
    refine r_get (j := 1) (pc := 10) X ce_31 rfl inT8 (by decide) w_236 rfl dX8_mostOften_10 ?_
    refine b_icmp_ge (tgt := 88) (pc := 13) X dX8_mostOften_13 (by decide) hf (fun hf => ?_) (fun hf => ?_)
    · refine r_lload_n (pc := 88) X dX8_mostOften_88 2 rfl ?_
      exact e_lret (pc := 89) X hr hf (Nat.le_refl _) (Nat.le_refl _) dX8_mostOften_89
    · refine r_iload (pc := 16) X dX8_mostOften_16 3 rfl ?_
      refine r_aload_n (x := some 31) (pc := 18) X dX8_mostOften_18 0 rfl ?_
      refine r_get (j := 0) (pc := 19) X ce_31 rfl inT8 (by decide) w_235 rfl dX8_mostOften_19 ?_
      refine r_alen (t0 := 1) (v := 100) (pc := 22) X ce_32 rfl (by decide) dX8_mostOften_22 ?_
      refine b_icmp_ge (tgt := 88) (pc := 23) X dX8_mostOften_23 (by decide) hf (fun hf => ?_) (fun hf => ?_)
      · refine r_lload_n (pc := 88) X dX8_mostOften_88 2 rfl ?_
        exact e_lret (pc := 89) X hr hf (Nat.le_refl _) (Nat.le_refl _) dX8_mostOften_89
      · refine r_aload_n (x := some 31) (pc := 26) X dX8_mostOften_26 0 rfl ?_
        refine r_get (j := 0) (pc := 27) X ce_31 rfl inT8 (by decide) w_235 rfl dX8_mostOften_27 ?_
        refine r_iload (pc := 30) X dX8_mostOften_30 3 rfl ?_
        refine b_iald (pc := 32) X ce_32 dX8_mostOften_32 hf (fun j1 hf => ?_)
        refine r_sipush (v := 1000) (pc := 33) X dX8_mostOften_33 (by decide) ?_
        refine r_iadd (pc := 36) X dX8_mostOften_36 ?_
        refine r_istore (pc := 37) (lv' := [(0, .ref (B + 31)), (1, .int l1), (2, .long l2), (4, .int l4), (5, .int ((gA s 32 j1) + 1000))]) X dX8_mostOften_37 (by decide) [1, 2, 3, 4, 0] rfl ?_
        refine r_iload (pc := 39) X dX8_mostOften_39 4 rfl ?_
        refine b_if_lt (tgt := 82) (pc := 41) X dX8_mostOften_41 (by decide) hf (fun hf => ?_) (fun hf => ?_)
        · refine r_iinc (v := l4 + 1) (lv' := [(0, .ref (B + 31)), (1, .int l1), (2, .long l2), (4, .int (l4 + 1))]) (pc := 82) X dX8_mostOften_82 3 rfl rfl (by decide) [1, 2, 3, 0] rfl ?_
          refine r_goto (tgt := 7) (pc := 85) X dX8_mostOften_85 (by decide) ?_
          exact ih hf
        · refine r_iload (pc := 44) X dX8_mostOften_44 4 rfl ?_
          refine r_aload_n (x := some 31) (pc := 46) X dX8_mostOften_46 0 rfl ?_
          refine r_get (j := 6) (pc := 47) X ce_31 rfl inT8 (by decide) w_241 rfl dX8_mostOften_47 ?_
          refine r_alen (t0 := 1) (v := 2001) (pc := 50) X ce_33 rfl (by decide) dX8_mostOften_50 ?_
          refine b_icmp_ge (tgt := 82) (pc := 51) X dX8_mostOften_51 (by decide) hf (fun hf => ?_) (fun hf => ?_)
          · refine r_iinc (v := l4 + 1) (lv' := [(0, .ref (B + 31)), (1, .int l1), (2, .long l2), (4, .int (l4 + 1))]) (pc := 82) X dX8_mostOften_82 3 rfl rfl (by decide) [1, 2, 3, 0] rfl ?_
            refine r_goto (tgt := 7) (pc := 85) X dX8_mostOften_85 (by decide) ?_
            exact ih hf
          · refine r_aload_n (x := some 31) (pc := 54) X dX8_mostOften_54 0 rfl ?_
            refine r_get (j := 6) (pc := 55) X ce_31 rfl inT8 (by decide) w_241 rfl dX8_mostOften_55 ?_
            refine r_iload (pc := 58) X dX8_mostOften_58 4 rfl ?_
            refine b_iald (pc := 60) X ce_33 dX8_mostOften_60 hf (fun j2 hf => ?_)
            refine r_iload_n (pc := 61) X dX8_mostOften_61 1 rfl ?_
            refine b_icmp_le (tgt := 82) (pc := 62) X dX8_mostOften_62 (by decide) hf (fun hf => ?_) (fun hf => ?_)
            · refine r_iinc (v := l4 + 1) (lv' := [(0, .ref (B + 31)), (1, .int l1), (2, .long l2), (4, .int (l4 + 1))]) (pc := 82) X dX8_mostOften_82 3 rfl rfl (by decide) [1, 2, 3, 0] rfl ?_
              refine r_goto (tgt := 7) (pc := 85) X dX8_mostOften_85 (by decide) ?_
              exact ih hf
            · refine r_aload_n (x := some 31) (pc := 65) X dX8_mostOften_65 0 rfl ?_
              refine r_get (j := 6) (pc := 66) X ce_31 rfl inT8 (by decide) w_241 rfl dX8_mostOften_66 ?_
              refine r_iload (pc := 69) X dX8_mostOften_69 4 rfl ?_
              refine b_iald (pc := 71) X ce_33 dX8_mostOften_71 hf (fun j3 hf => ?_)
              refine r_istore_n (pc := 72) (lv' := [(0, .ref (B + 31)), (1, .int (gA s 33 j3)), (4, .int l4)]) X dX8_mostOften_72 (by decide) [1, 0, 3] rfl ?_
              refine r_aload_n (x := some 31) (pc := 73) X dX8_mostOften_73 0 rfl ?_
              refine r_get (j := 0) (pc := 74) X ce_31 rfl inT8 (by decide) w_235 rfl dX8_mostOften_74 ?_
              refine r_iload (pc := 77) X dX8_mostOften_77 2 rfl ?_
              refine b_iald (pc := 79) X ce_32 dX8_mostOften_79 hf (fun j4 hf => ?_)
              refine r_i2l (pc := 80) X dX8_mostOften_80 ?_
              refine r_lstore_n (pc := 81) (lv' := [(0, .ref (B + 31)), (1, .int (gA s 33 j3)), (2, .long ((gA s 32 j4).toInt64)), (4, .int l4)]) X dX8_mostOften_81 (by decide) [1, 2, 0, 3] rfl ?_
              refine r_iinc (v := l4 + 1) (lv' := [(0, .ref (B + 31)), (1, .int (gA s 33 j3)), (2, .long ((gA s 32 j4).toInt64)), (4, .int (l4 + 1))]) (pc := 82) X dX8_mostOften_82 3 rfl rfl (by decide) [1, 2, 3, 0] rfl ?_
              refine r_goto (tgt := 7) (pc := 85) X dX8_mostOften_85 (by decide) ?_
              exact ih hf
set_option maxHeartbeats 1000000 in
theorem c_f_Tally_mostOftenw {F : Nat} {s : St}  {r : Int64} {s' : St} (hf : f_Tally_mostOftenw F s  = some (r, s')) : CC true yX8_mostOften (Cond.code yX8_mostOften cX8_mostOften 6 (some .long)) 0 0 (fun B => [.ref (B + 31)]) s (fun B => (some (.long r))) s' 0 0 := by
  refine CC.of (fun B => [(0, .ref (B + 31))]) (by decide +kernel) (fun _ => rfl) (fun _ => (by simp [lg_sl, rfB_cat, catI, catL, catR])) (fun Γ D B X hr hin => ?_)
  have X : Cx Γ RX8 cX8_mostOften 6 D B { frames := 0, cells := 0, slots := 0, locals := 0 } := X
  unfold f_Tally_mostOftenw at hf
  refine r_iconst (v := 0) (pc := 0) X dX8_mostOften_0 (by decide) ?_
  refine r_istore_n (pc := 1) (lv' := [(0, .ref (B + 31)), (1, .int 0)]) X dX8_mostOften_1 (by decide) [1, 0] rfl ?_
  refine r_lconst (v := 0) (pc := 2) X dX8_mostOften_2 (by decide) ?_
  refine r_lstore_n (pc := 3) (lv' := [(0, .ref (B + 31)), (1, .int 0), (2, .long 0)]) X dX8_mostOften_3 (by decide) [1, 2, 0] rfl ?_
  refine r_iconst (v := 0) (pc := 4) X dX8_mostOften_4 (by decide) ?_
  refine r_istore (pc := 5) (lv' := [(0, .ref (B + 31)), (1, .int 0), (2, .long 0), (4, .int 0)]) X dX8_mostOften_5 (by decide) [1, 2, 3, 0] rfl ?_
  exact c_f_Tally_mostOftenw_b7 X hr _ hf
/-! f_Tally_resultw -/
def f_Tally_resultw (F : Nat) (s : St) (p1 : Int32) : Option (Int64 × St) :=
  if p1 = 100 then
    (some (((gI s 1989).toInt64), s))
  else if p1 = 109 then
    (some (((gI s 1987).toInt64), s))
  else if p1 = 110 then
    (some (((gI s 1985).toInt64), s))
  else if p1 = 115 then
    (some ((gL s 1986), s))
  else if p1 = 116 then
    ((f_Tally_mostOftenw F s).bind fun x1 => (some (x1.1, x1.2)))
  else if p1 = 120 then
    (some (((gI s 1988).toInt64), s))
  else 
    (some (0, s))
set_option maxHeartbeats 1000000 in
theorem c_f_Tally_resultw {F : Nat} {s : St} {p1 : Int32} {r : Int64} {s' : St} (hf : f_Tally_resultw F s p1 = some (r, s')) : CC true yX8_result (Cond.code yX8_result cX8_result 2 (some .long)) 1 25 (fun B => [.ref (B + 31), .int p1]) s (fun B => (some (.long r))) s' 0 0 := by
  refine CC.of (fun B => [(0, .ref (B + 31)), (1, .int p1)]) (by decide +kernel) (fun _ => rfl) (fun _ => (by simp [lg_sl, rfB_cat, catI, catL, catR])) (fun Γ D B X hr hin => ?_)
  have X : Cx Γ RX8 cX8_result 2 D B { frames := 1, cells := 0, slots := 0, locals := 25 } := X
  unfold f_Tally_resultw at hf
  refine r_iload_n (pc := 0) X dX8_result_0 1 rfl ?_
  refine sw hf (fun e0 hf => ?_) (fun e0 hf => ?_)
  · refine r_lookup (tgt := 83) (pc := 1) X dX8_result_1 (by decide) (by rw [e0] <;> rfl) (by decide) ?_
    refine r_aload_n (x := some 31) (pc := 83) X dX8_result_83 0 rfl ?_
    refine r_get (j := 5) (pc := 84) X ce_31 rfl inT8 (by decide) w_240 rfl dX8_result_84 ?_
    refine r_i2l (pc := 87) X dX8_result_87 ?_
    exact e_lret (pc := 88) X hr hf (Nat.le_refl _) (Nat.le_refl _) dX8_result_88
  refine sw hf (fun e1 hf => ?_) (fun e1 hf => ?_)
  · refine r_lookup (tgt := 71) (pc := 1) X dX8_result_1 (by decide) (by rw [e1] <;> rfl) (by decide) ?_
    refine r_aload_n (x := some 31) (pc := 71) X dX8_result_71 0 rfl ?_
    refine r_get (j := 3) (pc := 72) X ce_31 rfl inT8 (by decide) w_238 rfl dX8_result_72 ?_
    refine r_i2l (pc := 75) X dX8_result_75 ?_
    exact e_lret (pc := 76) X hr hf (Nat.le_refl _) (Nat.le_refl _) dX8_result_76
  refine sw hf (fun e2 hf => ?_) (fun e2 hf => ?_)
  · refine r_lookup (tgt := 60) (pc := 1) X dX8_result_1 (by decide) (by rw [e2] <;> rfl) (by decide) ?_
    refine r_aload_n (x := some 31) (pc := 60) X dX8_result_60 0 rfl ?_
    refine r_get (j := 1) (pc := 61) X ce_31 rfl inT8 (by decide) w_236 rfl dX8_result_61 ?_
    refine r_i2l (pc := 64) X dX8_result_64 ?_
    exact e_lret (pc := 65) X hr hf (Nat.le_refl _) (Nat.le_refl _) dX8_result_65
  refine sw hf (fun e3 hf => ?_) (fun e3 hf => ?_)
  · refine r_lookup (tgt := 66) (pc := 1) X dX8_result_1 (by decide) (by rw [e3] <;> rfl) (by decide) ?_
    refine r_aload_n (x := some 31) (pc := 66) X dX8_result_66 0 rfl ?_
    refine r_get (j := 2) (pc := 67) X ce_31 rfl inT8 (by decide) w_237 rfl dX8_result_67 ?_
    exact e_lret (pc := 70) X hr hf (Nat.le_refl _) (Nat.le_refl _) dX8_result_70
  refine sw hf (fun e4 hf => ?_) (fun e4 hf => ?_)
  · refine r_lookup (tgt := 89) (pc := 1) X dX8_result_1 (by decide) (by rw [e4] <;> rfl) (by decide) ?_
    refine r_aload_n (x := some 31) (pc := 89) X dX8_result_89 0 rfl ?_
    refine bnd hf (fun x1 h1 hf => ?_)
    refine r_callVl (As := []) (st := []) (pc := 90) X (c_f_Tally_mostOftenw h1) rfl w_580 w_582 w_10 w_44 w_583 hdV_X8_mostOften (Rc.s rfl ce_31) (by decide) (by decide) (by decide) (Nat.le_of_ble_eq_true rfl) dX8_result_90 rfl ?_
    exact e_lret (pc := 93) X hr hf (Nat.le_refl _) (Nat.le_refl _) dX8_result_93
  refine sw hf (fun e5 hf => ?_) (fun e5 hf => ?_)
  · refine r_lookup (tgt := 77) (pc := 1) X dX8_result_1 (by decide) (by rw [e5] <;> rfl) (by decide) ?_
    refine r_aload_n (x := some 31) (pc := 77) X dX8_result_77 0 rfl ?_
    refine r_get (j := 4) (pc := 78) X ce_31 rfl inT8 (by decide) w_239 rfl dX8_result_78 ?_
    refine r_i2l (pc := 81) X dX8_result_81 ?_
    exact e_lret (pc := 82) X hr hf (Nat.le_refl _) (Nat.le_refl _) dX8_result_82
  · refine r_lookup (off := 93) (tgt := 94) (pc := 1) X dX8_result_1 (by decide) ((lv_osw e0 (by decide)).trans ((lv_osw e1 (by decide)).trans ((lv_osw e2 (by decide)).trans ((lv_osw e3 (by decide)).trans ((lv_osw e4 (by decide)).trans ((lv_osw e5 (by decide)).trans rfl)))))) (by decide) ?_
    refine r_lconst (v := 0) (pc := 94) X dX8_result_94 (by decide) ?_
    exact e_lret (pc := 95) X hr hf (Nat.le_refl _) (Nat.le_refl _) dX8_result_95
