/-! f_M_isIn -/
theorem dX11_isIn_0 : decode cX11_isIn 0 = .ok (.iload_n 0, 1) := by decide +kernel
theorem dX11_isIn_1 : decode cX11_isIn 1 = .ok (.iload_n 1, 1) := by decide +kernel
theorem dX11_isIn_2 : decode cX11_isIn 2 = .ok (.if_icmp .lt 12, 3) := by decide +kernel
theorem dX11_isIn_5 : decode cX11_isIn 5 = .ok (.iload_n 0, 1) := by decide +kernel
theorem dX11_isIn_6 : decode cX11_isIn 6 = .ok (.iload_n 2, 1) := by decide +kernel
theorem dX11_isIn_7 : decode cX11_isIn 7 = .ok (.if_icmp .gt 7, 3) := by decide +kernel
theorem dX11_isIn_10 : decode cX11_isIn 10 = .ok (.iconst 1, 1) := by decide +kernel
theorem dX11_isIn_11 : decode cX11_isIn 11 = .ok (.goto 4, 3) := by decide +kernel
theorem dX11_isIn_14 : decode cX11_isIn 14 = .ok (.iconst 0, 1) := by decide +kernel
theorem dX11_isIn_15 : decode cX11_isIn 15 = .ok (.ireturn, 1) := by decide +kernel
def f_M_isIn (F : Nat) (s : St) (p0 : Int32) (p1 : Int32) (p2 : Int32) : Option (Int32 × St) :=
  if p0 < p1 then
    (some (0, s))
  else
    (if p2 < p0 then
      (some (0, s))
    else
      (some (1, s)))
set_option maxHeartbeats 1000000 in
theorem c_f_M_isIn {F : Nat} {s : St} {p0 : Int32} {p1 : Int32} {p2 : Int32} {r : Int32} {s' : St} (hf : f_M_isIn F s p0 p1 p2 = some (r, s')) : CC true yX11_isIn (Cond.code yX11_isIn cX11_isIn 3 (some .boolean)) 0 0 (fun B => [.int p0, .int p1, .int p2]) s (fun B => (some (.int r))) s' 0 0 := by
  refine CC.of (fun B => [(0, .int p0), (1, .int p1), (2, .int p2)]) (by decide +kernel) (fun _ => rfl) (fun _ => (by simp [lg_sl, rfB_cat, catI, catL, catR])) (fun Γ D B X hr hin => ?_)
  have X : Cx Γ RX11 cX11_isIn 3 D B { frames := 0, cells := 0, slots := 0, locals := 0 } := X
  unfold f_M_isIn at hf
  refine r_iload_n (pc := 0) X dX11_isIn_0 0 rfl ?_
  refine r_iload_n (pc := 1) X dX11_isIn_1 1 rfl ?_
  refine b_icmp_lt (tgt := 14) (pc := 2) X dX11_isIn_2 (by decide) hf (fun hf => ?_) (fun hf => ?_)
  · refine r_iconst (v := 0) (pc := 14) X dX11_isIn_14 (by decide) ?_
    exact e_zret (pc := 15) X hr (by decide) hf (Nat.le_refl _) (Nat.le_refl _) dX11_isIn_15
  · refine r_iload_n (pc := 5) X dX11_isIn_5 0 rfl ?_
    refine r_iload_n (pc := 6) X dX11_isIn_6 2 rfl ?_
    refine b_icmp_gt (tgt := 14) (pc := 7) X dX11_isIn_7 (by decide) hf (fun hf => ?_) (fun hf => ?_)
    · refine r_iconst (v := 0) (pc := 14) X dX11_isIn_14 (by decide) ?_
      exact e_zret (pc := 15) X hr (by decide) hf (Nat.le_refl _) (Nat.le_refl _) dX11_isIn_15
    · refine r_iconst (v := 1) (pc := 10) X dX11_isIn_10 (by decide) ?_
      refine r_goto (tgt := 15) (pc := 11) X dX11_isIn_11 (by decide) ?_
      exact e_zret (pc := 15) X hr (by decide) hf (Nat.le_refl _) (Nat.le_refl _) dX11_isIn_15
/-! f_M_puts -/
theorem dX11_puts_0 : decode cX11_puts 0 = .ok (.bipush 64, 2) := by decide +kernel
theorem dX11_puts_2 : decode cX11_puts 2 = .ok (.aload_n 0, 1) := by decide +kernel
theorem dX11_puts_3 : decode cX11_puts 3 = .ok (.getfield 106, 3) := by decide +kernel
theorem dX11_puts_6 : decode cX11_puts 6 = .ok (.imul, 1) := by decide +kernel
theorem dX11_puts_7 : decode cX11_puts 7 = .ok (.aload_n 0, 1) := by decide +kernel
theorem dX11_puts_8 : decode cX11_puts 8 = .ok (.getfield 19, 3) := by decide +kernel
theorem dX11_puts_11 : decode cX11_puts 11 = .ok (.aload_n 0, 1) := by decide +kernel
theorem dX11_puts_12 : decode cX11_puts 12 = .ok (.getfield 106, 3) := by decide +kernel
theorem dX11_puts_15 : decode cX11_puts 15 = .ok (.iaload, 1) := by decide +kernel
theorem dX11_puts_16 : decode cX11_puts 16 = .ok (.iadd, 1) := by decide +kernel
theorem dX11_puts_17 : decode cX11_puts 17 = .ok (.istore_n 3, 1) := by decide +kernel
theorem dX11_puts_18 : decode cX11_puts 18 = .ok (.aload_n 0, 1) := by decide +kernel
theorem dX11_puts_19 : decode cX11_puts 19 = .ok (.getfield 13, 3) := by decide +kernel
theorem dX11_puts_22 : decode cX11_puts 22 = .ok (.iload_n 3, 1) := by decide +kernel
theorem dX11_puts_23 : decode cX11_puts 23 = .ok (.iload_n 1, 1) := by decide +kernel
theorem dX11_puts_24 : decode cX11_puts 24 = .ok (.iastore, 1) := by decide +kernel
theorem dX11_puts_25 : decode cX11_puts 25 = .ok (.aload_n 0, 1) := by decide +kernel
theorem dX11_puts_26 : decode cX11_puts 26 = .ok (.getfield 16, 3) := by decide +kernel
theorem dX11_puts_29 : decode cX11_puts 29 = .ok (.iload_n 3, 1) := by decide +kernel
theorem dX11_puts_30 : decode cX11_puts 30 = .ok (.iload_n 2, 1) := by decide +kernel
theorem dX11_puts_31 : decode cX11_puts 31 = .ok (.iastore, 1) := by decide +kernel
theorem dX11_puts_32 : decode cX11_puts 32 = .ok (.aload_n 0, 1) := by decide +kernel
theorem dX11_puts_33 : decode cX11_puts 33 = .ok (.getfield 19, 3) := by decide +kernel
theorem dX11_puts_36 : decode cX11_puts 36 = .ok (.aload_n 0, 1) := by decide +kernel
theorem dX11_puts_37 : decode cX11_puts 37 = .ok (.getfield 106, 3) := by decide +kernel
theorem dX11_puts_40 : decode cX11_puts 40 = .ok (.dup2, 1) := by decide +kernel
theorem dX11_puts_41 : decode cX11_puts 41 = .ok (.iaload, 1) := by decide +kernel
theorem dX11_puts_42 : decode cX11_puts 42 = .ok (.iconst 1, 1) := by decide +kernel
theorem dX11_puts_43 : decode cX11_puts 43 = .ok (.iadd, 1) := by decide +kernel
theorem dX11_puts_44 : decode cX11_puts 44 = .ok (.iastore, 1) := by decide +kernel
theorem dX11_puts_45 : decode cX11_puts 45 = .ok (.return_, 1) := by decide +kernel
def f_M_puts (F : Nat) (s : St) (p1 : Int32) (p2 : Int32) : Option (St) :=
  (ix 5 (gI s 2504)).bind fun j1 => ((ix 320 (((64 : Int32) * (gI s 2504)) + (gA s 43 j1))).bind fun j2 => (lt (sA s 41 j2 p1) fun s3 => ((ix 320 (((64 : Int32) * (gI s 2504)) + (gA s 43 j1))).bind fun j4 => (lt (sA s3 42 j4 p2) fun s5 => ((ix 5 (gI s5 2504)).bind fun j6 => ((ix 5 (gI s5 2504)).bind fun j7 => (lt (sA s5 43 j7 ((gA s5 43 j6) + 1)) fun s8 => (some s8))))))))
set_option maxHeartbeats 1000000 in
theorem c_f_M_puts {F : Nat} {s : St} {p1 : Int32} {p2 : Int32} {s' : St} (hf : f_M_puts F s p1 p2 = some s') : CC true yX11_puts (Cond.code yX11_puts cX11_puts 4 none) 0 0 (fun B => [.ref (B + 39), .int p1, .int p2]) s (fun B => none) s' 0 0 := by
  refine CC.of (fun B => [(0, .ref (B + 39)), (1, .int p1), (2, .int p2)]) (by decide +kernel) (fun _ => rfl) (fun _ => (by simp [lg_sl, rfB_cat, catI, catL, catR])) (fun Γ D B X hr hin => ?_)
  have X : Cx Γ RX11 cX11_puts 4 D B { frames := 0, cells := 0, slots := 0, locals := 0 } := X
  unfold f_M_puts at hf
  refine r_bipush (v := 64) (pc := 0) X dX11_puts_0 (by decide) ?_
  refine r_aload_n (x := some 39) (pc := 2) X dX11_puts_2 0 rfl ?_
  refine r_get (j := 8) (pc := 3) X ce_39 rfl inT11 (by decide) w_1088 rfl dX11_puts_3 ?_
  refine r_imul (pc := 6) X dX11_puts_6 ?_
  refine r_aload_n (x := some 39) (pc := 7) X dX11_puts_7 0 rfl ?_
  refine r_get (j := 4) (pc := 8) X ce_39 rfl inT11 (by decide) w_1084 rfl dX11_puts_8 ?_
  refine r_aload_n (x := some 39) (pc := 11) X dX11_puts_11 0 rfl ?_
  refine r_get (j := 8) (pc := 12) X ce_39 rfl inT11 (by decide) w_1088 rfl dX11_puts_12 ?_
  refine b_iald (pc := 15) X ce_43 dX11_puts_15 hf (fun j1 hf => ?_)
  refine r_iadd (pc := 16) X dX11_puts_16 ?_
  refine r_istore_n (pc := 17) (lv' := [(0, .ref (B + 39)), (1, .int p1), (2, .int p2), (3, .int (((64 : Int32) * (gI s 2504)) + (gA s 43 j1)))]) X dX11_puts_17 (by decide) [1, 2, 3, 0] rfl ?_
  refine r_aload_n (x := some 39) (pc := 18) X dX11_puts_18 0 rfl ?_
  refine r_get (j := 2) (pc := 19) X ce_39 rfl inT11 (by decide) w_1082 rfl dX11_puts_19 ?_
  refine r_iload_n (pc := 22) X dX11_puts_22 3 rfl ?_
  refine r_iload_n (pc := 23) X dX11_puts_23 1 rfl ?_
  refine b_iast (pc := 24) X ce_41 (fun _ => ca_41 _ _) dX11_puts_24 hf (fun j2 s3 hf => ?_)
  refine r_aload_n (x := some 39) (pc := 25) X dX11_puts_25 0 rfl ?_
  refine r_get (j := 3) (pc := 26) X ce_39 rfl inT11 (by decide) w_1083 rfl dX11_puts_26 ?_
  refine r_iload_n (pc := 29) X dX11_puts_29 3 rfl ?_
  refine r_iload_n (pc := 30) X dX11_puts_30 2 rfl ?_
  refine b_iast (pc := 31) X ce_42 (fun _ => ca_42 _ _) dX11_puts_31 hf (fun j4 s5 hf => ?_)
  refine r_aload_n (x := some 39) (pc := 32) X dX11_puts_32 0 rfl ?_
  refine r_get (j := 4) (pc := 33) X ce_39 rfl inT11 (by decide) w_1084 rfl dX11_puts_33 ?_
  refine r_aload_n (x := some 39) (pc := 36) X dX11_puts_36 0 rfl ?_
  refine r_get (j := 8) (pc := 37) X ce_39 rfl inT11 (by decide) w_1088 rfl dX11_puts_37 ?_
  refine r_dup2 (pc := 40) X dX11_puts_40 rfl rfl ?_
  refine b_iald (pc := 41) X ce_43 dX11_puts_41 hf (fun j6 hf => ?_)
  refine r_iconst (v := 1) (pc := 42) X dX11_puts_42 (by decide) ?_
  refine r_iadd (pc := 43) X dX11_puts_43 ?_
  refine b_iast (pc := 44) X ce_43 (fun _ => ca_43 _ _) dX11_puts_44 hf (fun j7 s8 hf => ?_)
  exact e_vret (pc := 45) X hr hf (Nat.le_refl _) (Nat.le_refl _) dX11_puts_45
/-! f_M_putsAsk -/
theorem dX11_putsAsk_0 : decode cX11_putsAsk 0 = .ok (.bipush 64, 2) := by decide +kernel
theorem dX11_putsAsk_2 : decode cX11_putsAsk 2 = .ok (.aload_n 0, 1) := by decide +kernel
theorem dX11_putsAsk_3 : decode cX11_putsAsk 3 = .ok (.getfield 106, 3) := by decide +kernel
theorem dX11_putsAsk_6 : decode cX11_putsAsk 6 = .ok (.imul, 1) := by decide +kernel
theorem dX11_putsAsk_7 : decode cX11_putsAsk 7 = .ok (.aload_n 0, 1) := by decide +kernel
theorem dX11_putsAsk_8 : decode cX11_putsAsk 8 = .ok (.getfield 28, 3) := by decide +kernel
theorem dX11_putsAsk_11 : decode cX11_putsAsk 11 = .ok (.aload_n 0, 1) := by decide +kernel
theorem dX11_putsAsk_12 : decode cX11_putsAsk 12 = .ok (.getfield 106, 3) := by decide +kernel
theorem dX11_putsAsk_15 : decode cX11_putsAsk 15 = .ok (.iaload, 1) := by decide +kernel
theorem dX11_putsAsk_16 : decode cX11_putsAsk 16 = .ok (.iadd, 1) := by decide +kernel
theorem dX11_putsAsk_17 : decode cX11_putsAsk 17 = .ok (.istore_n 3, 1) := by decide +kernel
theorem dX11_putsAsk_18 : decode cX11_putsAsk 18 = .ok (.aload_n 0, 1) := by decide +kernel
theorem dX11_putsAsk_19 : decode cX11_putsAsk 19 = .ok (.getfield 22, 3) := by decide +kernel
theorem dX11_putsAsk_22 : decode cX11_putsAsk 22 = .ok (.iload_n 3, 1) := by decide +kernel
theorem dX11_putsAsk_23 : decode cX11_putsAsk 23 = .ok (.iload_n 1, 1) := by decide +kernel
theorem dX11_putsAsk_24 : decode cX11_putsAsk 24 = .ok (.iastore, 1) := by decide +kernel
theorem dX11_putsAsk_25 : decode cX11_putsAsk 25 = .ok (.aload_n 0, 1) := by decide +kernel
theorem dX11_putsAsk_26 : decode cX11_putsAsk 26 = .ok (.getfield 25, 3) := by decide +kernel
theorem dX11_putsAsk_29 : decode cX11_putsAsk 29 = .ok (.iload_n 3, 1) := by decide +kernel
theorem dX11_putsAsk_30 : decode cX11_putsAsk 30 = .ok (.iload_n 2, 1) := by decide +kernel
theorem dX11_putsAsk_31 : decode cX11_putsAsk 31 = .ok (.iastore, 1) := by decide +kernel
theorem dX11_putsAsk_32 : decode cX11_putsAsk 32 = .ok (.aload_n 0, 1) := by decide +kernel
theorem dX11_putsAsk_33 : decode cX11_putsAsk 33 = .ok (.getfield 28, 3) := by decide +kernel
theorem dX11_putsAsk_36 : decode cX11_putsAsk 36 = .ok (.aload_n 0, 1) := by decide +kernel
theorem dX11_putsAsk_37 : decode cX11_putsAsk 37 = .ok (.getfield 106, 3) := by decide +kernel
theorem dX11_putsAsk_40 : decode cX11_putsAsk 40 = .ok (.dup2, 1) := by decide +kernel
theorem dX11_putsAsk_41 : decode cX11_putsAsk 41 = .ok (.iaload, 1) := by decide +kernel
theorem dX11_putsAsk_42 : decode cX11_putsAsk 42 = .ok (.iconst 1, 1) := by decide +kernel
theorem dX11_putsAsk_43 : decode cX11_putsAsk 43 = .ok (.iadd, 1) := by decide +kernel
theorem dX11_putsAsk_44 : decode cX11_putsAsk 44 = .ok (.iastore, 1) := by decide +kernel
theorem dX11_putsAsk_45 : decode cX11_putsAsk 45 = .ok (.return_, 1) := by decide +kernel
def f_M_putsAsk (F : Nat) (s : St) (p1 : Int32) (p2 : Int32) : Option (St) :=
  (ix 5 (gI s 2504)).bind fun j1 => ((ix 320 (((64 : Int32) * (gI s 2504)) + (gA s 46 j1))).bind fun j2 => (lt (sA s 44 j2 p1) fun s3 => ((ix 320 (((64 : Int32) * (gI s 2504)) + (gA s 46 j1))).bind fun j4 => (lt (sA s3 45 j4 p2) fun s5 => ((ix 5 (gI s5 2504)).bind fun j6 => ((ix 5 (gI s5 2504)).bind fun j7 => (lt (sA s5 46 j7 ((gA s5 46 j6) + 1)) fun s8 => (some s8))))))))
set_option maxHeartbeats 1000000 in
theorem c_f_M_putsAsk {F : Nat} {s : St} {p1 : Int32} {p2 : Int32} {s' : St} (hf : f_M_putsAsk F s p1 p2 = some s') : CC true yX11_putsAsk (Cond.code yX11_putsAsk cX11_putsAsk 4 none) 0 0 (fun B => [.ref (B + 39), .int p1, .int p2]) s (fun B => none) s' 0 0 := by
  refine CC.of (fun B => [(0, .ref (B + 39)), (1, .int p1), (2, .int p2)]) (by decide +kernel) (fun _ => rfl) (fun _ => (by simp [lg_sl, rfB_cat, catI, catL, catR])) (fun Γ D B X hr hin => ?_)
  have X : Cx Γ RX11 cX11_putsAsk 4 D B { frames := 0, cells := 0, slots := 0, locals := 0 } := X
  unfold f_M_putsAsk at hf
  refine r_bipush (v := 64) (pc := 0) X dX11_putsAsk_0 (by decide) ?_
  refine r_aload_n (x := some 39) (pc := 2) X dX11_putsAsk_2 0 rfl ?_
  refine r_get (j := 8) (pc := 3) X ce_39 rfl inT11 (by decide) w_1088 rfl dX11_putsAsk_3 ?_
  refine r_imul (pc := 6) X dX11_putsAsk_6 ?_
  refine r_aload_n (x := some 39) (pc := 7) X dX11_putsAsk_7 0 rfl ?_
  refine r_get (j := 7) (pc := 8) X ce_39 rfl inT11 (by decide) w_1087 rfl dX11_putsAsk_8 ?_
  refine r_aload_n (x := some 39) (pc := 11) X dX11_putsAsk_11 0 rfl ?_
  refine r_get (j := 8) (pc := 12) X ce_39 rfl inT11 (by decide) w_1088 rfl dX11_putsAsk_12 ?_
  refine b_iald (pc := 15) X ce_46 dX11_putsAsk_15 hf (fun j1 hf => ?_)
  refine r_iadd (pc := 16) X dX11_putsAsk_16 ?_
  refine r_istore_n (pc := 17) (lv' := [(0, .ref (B + 39)), (1, .int p1), (2, .int p2), (3, .int (((64 : Int32) * (gI s 2504)) + (gA s 46 j1)))]) X dX11_putsAsk_17 (by decide) [1, 2, 3, 0] rfl ?_
  refine r_aload_n (x := some 39) (pc := 18) X dX11_putsAsk_18 0 rfl ?_
  refine r_get (j := 5) (pc := 19) X ce_39 rfl inT11 (by decide) w_1085 rfl dX11_putsAsk_19 ?_
  refine r_iload_n (pc := 22) X dX11_putsAsk_22 3 rfl ?_
  refine r_iload_n (pc := 23) X dX11_putsAsk_23 1 rfl ?_
  refine b_iast (pc := 24) X ce_44 (fun _ => ca_44 _ _) dX11_putsAsk_24 hf (fun j2 s3 hf => ?_)
  refine r_aload_n (x := some 39) (pc := 25) X dX11_putsAsk_25 0 rfl ?_
  refine r_get (j := 6) (pc := 26) X ce_39 rfl inT11 (by decide) w_1086 rfl dX11_putsAsk_26 ?_
  refine r_iload_n (pc := 29) X dX11_putsAsk_29 3 rfl ?_
  refine r_iload_n (pc := 30) X dX11_putsAsk_30 2 rfl ?_
  refine b_iast (pc := 31) X ce_45 (fun _ => ca_45 _ _) dX11_putsAsk_31 hf (fun j4 s5 hf => ?_)
  refine r_aload_n (x := some 39) (pc := 32) X dX11_putsAsk_32 0 rfl ?_
  refine r_get (j := 7) (pc := 33) X ce_39 rfl inT11 (by decide) w_1087 rfl dX11_putsAsk_33 ?_
  refine r_aload_n (x := some 39) (pc := 36) X dX11_putsAsk_36 0 rfl ?_
  refine r_get (j := 8) (pc := 37) X ce_39 rfl inT11 (by decide) w_1088 rfl dX11_putsAsk_37 ?_
  refine r_dup2 (pc := 40) X dX11_putsAsk_40 rfl rfl ?_
  refine b_iald (pc := 41) X ce_46 dX11_putsAsk_41 hf (fun j6 hf => ?_)
  refine r_iconst (v := 1) (pc := 42) X dX11_putsAsk_42 (by decide) ?_
  refine r_iadd (pc := 43) X dX11_putsAsk_43 ?_
  refine b_iast (pc := 44) X ce_46 (fun _ => ca_46 _ _) dX11_putsAsk_44 hf (fun j7 s8 hf => ?_)
  exact e_vret (pc := 45) X hr hf (Nat.le_refl _) (Nat.le_refl _) dX11_putsAsk_45
/-! f_M_isFigure -/
theorem dX11_isFigure_0 : decode cX11_isFigure 0 = .ok (.iload_n 0, 1) := by decide +kernel
theorem dX11_isFigure_1 : decode cX11_isFigure 1 = .ok (.bipush 48, 2) := by decide +kernel
theorem dX11_isFigure_3 : decode cX11_isFigure 3 = .ok (.bipush 57, 2) := by decide +kernel
theorem dX11_isFigure_5 : decode cX11_isFigure 5 = .ok (.invokestatic 109, 3) := by decide +kernel
theorem dX11_isFigure_8 : decode cX11_isFigure 8 = .ok (.ireturn, 1) := by decide +kernel
def f_M_isFigure (F : Nat) (s : St) (p0 : Int32) : Option (Int32 × St) :=
  (f_M_isIn F s p0 48 57).bind fun x1 => (if x1.1 = 0 ∨ x1.1 = 1 then (some (x1.1, x1.2)) else none)
set_option maxHeartbeats 1000000 in
theorem c_f_M_isFigure {F : Nat} {s : St} {p0 : Int32} {r : Int32} {s' : St} (hf : f_M_isFigure F s p0 = some (r, s')) : CC true yX11_isFigure (Cond.code yX11_isFigure cX11_isFigure 1 (some .boolean)) 1 22 (fun B => [.int p0]) s (fun B => (some (.int r))) s' 0 0 := by
  refine CC.of (fun B => [(0, .int p0)]) (by decide +kernel) (fun _ => rfl) (fun _ => (by simp [lg_sl, rfB_cat, catI, catL, catR])) (fun Γ D B X hr hin => ?_)
  have X : Cx Γ RX11 cX11_isFigure 1 D B { frames := 1, cells := 0, slots := 0, locals := 22 } := X
  unfold f_M_isFigure at hf
  refine r_iload_n (pc := 0) X dX11_isFigure_0 0 rfl ?_
  refine r_bipush (v := 48) (pc := 1) X dX11_isFigure_1 (by decide) ?_
  refine r_bipush (v := 57) (pc := 3) X dX11_isFigure_3 (by decide) ?_
  refine bnd hf (fun x1 h1 hf => ?_)
  refine r_callSi (As := [.int p0, .int 48, .int 57]) (st := []) (pc := 5) X (c_f_M_isIn h1) rfl w_1257 w_1258 w_84 w_1259 hdS_X11_isIn (by decide) (by decide) (by decide) (Nat.le_of_ble_eq_true rfl) dX11_isFigure_5 rfl ?_
  refine ifo hf (fun hx hf => ?_)
  exact e_zret (pc := 8) X hr hx hf (Nat.le_refl _) (Nat.le_refl _) dX11_isFigure_8
/-! f_M_fieldOf -/
theorem dX11_fieldOf_0 : decode cX11_fieldOf 0 = .ok (.iload_n 0, 1) := by decide +kernel
theorem dX11_fieldOf_1 : decode cX11_fieldOf 1 = .ok (.bipush 112, 2) := by decide +kernel
theorem dX11_fieldOf_3 : decode cX11_fieldOf 3 = .ok (.if_icmp .ne 7, 3) := by decide +kernel
theorem dX11_fieldOf_6 : decode cX11_fieldOf 6 = .ok (.iconst 0, 1) := by decide +kernel
theorem dX11_fieldOf_7 : decode cX11_fieldOf 7 = .ok (.goto 34, 3) := by decide +kernel
theorem dX11_fieldOf_10 : decode cX11_fieldOf 10 = .ok (.iload_n 0, 1) := by decide +kernel
theorem dX11_fieldOf_11 : decode cX11_fieldOf 11 = .ok (.bipush 108, 2) := by decide +kernel
theorem dX11_fieldOf_13 : decode cX11_fieldOf 13 = .ok (.if_icmp .ne 7, 3) := by decide +kernel
theorem dX11_fieldOf_16 : decode cX11_fieldOf 16 = .ok (.iconst 1, 1) := by decide +kernel
theorem dX11_fieldOf_17 : decode cX11_fieldOf 17 = .ok (.goto 24, 3) := by decide +kernel
theorem dX11_fieldOf_20 : decode cX11_fieldOf 20 = .ok (.iload_n 0, 1) := by decide +kernel
theorem dX11_fieldOf_21 : decode cX11_fieldOf 21 = .ok (.bipush 118, 2) := by decide +kernel
theorem dX11_fieldOf_23 : decode cX11_fieldOf 23 = .ok (.if_icmp .ne 7, 3) := by decide +kernel
theorem dX11_fieldOf_26 : decode cX11_fieldOf 26 = .ok (.iconst 2, 1) := by decide +kernel
theorem dX11_fieldOf_27 : decode cX11_fieldOf 27 = .ok (.goto 14, 3) := by decide +kernel
theorem dX11_fieldOf_30 : decode cX11_fieldOf 30 = .ok (.iload_n 0, 1) := by decide +kernel
theorem dX11_fieldOf_31 : decode cX11_fieldOf 31 = .ok (.bipush 104, 2) := by decide +kernel
theorem dX11_fieldOf_33 : decode cX11_fieldOf 33 = .ok (.if_icmp .ne 7, 3) := by decide +kernel
theorem dX11_fieldOf_36 : decode cX11_fieldOf 36 = .ok (.iconst 3, 1) := by decide +kernel
theorem dX11_fieldOf_37 : decode cX11_fieldOf 37 = .ok (.goto 4, 3) := by decide +kernel
theorem dX11_fieldOf_40 : decode cX11_fieldOf 40 = .ok (.iconst (-1), 1) := by decide +kernel
theorem dX11_fieldOf_41 : decode cX11_fieldOf 41 = .ok (.ireturn, 1) := by decide +kernel
def f_M_fieldOf (F : Nat) (s : St) (p0 : Int32) : Option (Int32 × St) :=
  if p0 = 112 then
    (some (0, s))
  else
    (if p0 = 108 then
      (some (1, s))
    else
      (if p0 = 118 then
        (some (2, s))
      else
        (if p0 = 104 then
          (some (3, s))
        else
          (some ((-1), s)))))
set_option maxHeartbeats 1000000 in
theorem c_f_M_fieldOf {F : Nat} {s : St} {p0 : Int32} {r : Int32} {s' : St} (hf : f_M_fieldOf F s p0 = some (r, s')) : CC true yX11_fieldOf (Cond.code yX11_fieldOf cX11_fieldOf 1 (some .int)) 0 0 (fun B => [.int p0]) s (fun B => (some (.int r))) s' 0 0 := by
  refine CC.of (fun B => [(0, .int p0)]) (by decide +kernel) (fun _ => rfl) (fun _ => (by simp [lg_sl, rfB_cat, catI, catL, catR])) (fun Γ D B X hr hin => ?_)
  have X : Cx Γ RX11 cX11_fieldOf 1 D B { frames := 0, cells := 0, slots := 0, locals := 0 } := X
  unfold f_M_fieldOf at hf
  refine r_iload_n (pc := 0) X dX11_fieldOf_0 0 rfl ?_
  refine r_bipush (v := 112) (pc := 1) X dX11_fieldOf_1 (by decide) ?_
  refine b_icmp_ne (tgt := 10) (pc := 3) X dX11_fieldOf_3 (by decide) hf (fun hf => ?_) (fun hf => ?_)
  · refine r_iconst (v := 0) (pc := 6) X dX11_fieldOf_6 (by decide) ?_
    refine r_goto (tgt := 41) (pc := 7) X dX11_fieldOf_7 (by decide) ?_
    exact e_iret (pc := 41) X hr hf (Nat.le_refl _) (Nat.le_refl _) dX11_fieldOf_41
  · refine r_iload_n (pc := 10) X dX11_fieldOf_10 0 rfl ?_
    refine r_bipush (v := 108) (pc := 11) X dX11_fieldOf_11 (by decide) ?_
    refine b_icmp_ne (tgt := 20) (pc := 13) X dX11_fieldOf_13 (by decide) hf (fun hf => ?_) (fun hf => ?_)
    · refine r_iconst (v := 1) (pc := 16) X dX11_fieldOf_16 (by decide) ?_
      refine r_goto (tgt := 41) (pc := 17) X dX11_fieldOf_17 (by decide) ?_
      exact e_iret (pc := 41) X hr hf (Nat.le_refl _) (Nat.le_refl _) dX11_fieldOf_41
    · refine r_iload_n (pc := 20) X dX11_fieldOf_20 0 rfl ?_
      refine r_bipush (v := 118) (pc := 21) X dX11_fieldOf_21 (by decide) ?_
      refine b_icmp_ne (tgt := 30) (pc := 23) X dX11_fieldOf_23 (by decide) hf (fun hf => ?_) (fun hf => ?_)
      · refine r_iconst (v := 2) (pc := 26) X dX11_fieldOf_26 (by decide) ?_
        refine r_goto (tgt := 41) (pc := 27) X dX11_fieldOf_27 (by decide) ?_
        exact e_iret (pc := 41) X hr hf (Nat.le_refl _) (Nat.le_refl _) dX11_fieldOf_41
      · refine r_iload_n (pc := 30) X dX11_fieldOf_30 0 rfl ?_
        refine r_bipush (v := 104) (pc := 31) X dX11_fieldOf_31 (by decide) ?_
        refine b_icmp_ne (tgt := 40) (pc := 33) X dX11_fieldOf_33 (by decide) hf (fun hf => ?_) (fun hf => ?_)
        · refine r_iconst (v := 3) (pc := 36) X dX11_fieldOf_36 (by decide) ?_
          refine r_goto (tgt := 41) (pc := 37) X dX11_fieldOf_37 (by decide) ?_
          exact e_iret (pc := 41) X hr hf (Nat.le_refl _) (Nat.le_refl _) dX11_fieldOf_41
        · refine r_iconst (v := -1) (pc := 40) X dX11_fieldOf_40 (by decide) ?_
          exact e_iret (pc := 41) X hr hf (Nat.le_refl _) (Nat.le_refl _) dX11_fieldOf_41
/-! f_M_kindOf -/
theorem dX11_kindOf_0 : decode cX11_kindOf 0 = .ok (.iload_n 0, 1) := by decide +kernel
theorem dX11_kindOf_1 : decode cX11_kindOf 1 = .ok (.bipush 110, 2) := by decide +kernel
theorem dX11_kindOf_3 : decode cX11_kindOf 3 = .ok (.if_icmp .ne 7, 3) := by decide +kernel
theorem dX11_kindOf_6 : decode cX11_kindOf 6 = .ok (.iconst 0, 1) := by decide +kernel
theorem dX11_kindOf_7 : decode cX11_kindOf 7 = .ok (.goto 54, 3) := by decide +kernel
theorem dX11_kindOf_10 : decode cX11_kindOf 10 = .ok (.iload_n 0, 1) := by decide +kernel
theorem dX11_kindOf_11 : decode cX11_kindOf 11 = .ok (.bipush 115, 2) := by decide +kernel
theorem dX11_kindOf_13 : decode cX11_kindOf 13 = .ok (.if_icmp .ne 7, 3) := by decide +kernel
theorem dX11_kindOf_16 : decode cX11_kindOf 16 = .ok (.iconst 1, 1) := by decide +kernel
theorem dX11_kindOf_17 : decode cX11_kindOf 17 = .ok (.goto 44, 3) := by decide +kernel
theorem dX11_kindOf_20 : decode cX11_kindOf 20 = .ok (.iload_n 0, 1) := by decide +kernel
theorem dX11_kindOf_21 : decode cX11_kindOf 21 = .ok (.bipush 109, 2) := by decide +kernel
theorem dX11_kindOf_23 : decode cX11_kindOf 23 = .ok (.if_icmp .ne 7, 3) := by decide +kernel
theorem dX11_kindOf_26 : decode cX11_kindOf 26 = .ok (.iconst 2, 1) := by decide +kernel
theorem dX11_kindOf_27 : decode cX11_kindOf 27 = .ok (.goto 34, 3) := by decide +kernel
theorem dX11_kindOf_30 : decode cX11_kindOf 30 = .ok (.iload_n 0, 1) := by decide +kernel
theorem dX11_kindOf_31 : decode cX11_kindOf 31 = .ok (.bipush 120, 2) := by decide +kernel
theorem dX11_kindOf_33 : decode cX11_kindOf 33 = .ok (.if_icmp .ne 7, 3) := by decide +kernel
theorem dX11_kindOf_36 : decode cX11_kindOf 36 = .ok (.iconst 3, 1) := by decide +kernel
theorem dX11_kindOf_37 : decode cX11_kindOf 37 = .ok (.goto 24, 3) := by decide +kernel
theorem dX11_kindOf_40 : decode cX11_kindOf 40 = .ok (.iload_n 0, 1) := by decide +kernel
theorem dX11_kindOf_41 : decode cX11_kindOf 41 = .ok (.bipush 100, 2) := by decide +kernel
theorem dX11_kindOf_43 : decode cX11_kindOf 43 = .ok (.if_icmp .ne 7, 3) := by decide +kernel
theorem dX11_kindOf_46 : decode cX11_kindOf 46 = .ok (.iconst 4, 1) := by decide +kernel
theorem dX11_kindOf_47 : decode cX11_kindOf 47 = .ok (.goto 14, 3) := by decide +kernel
theorem dX11_kindOf_50 : decode cX11_kindOf 50 = .ok (.iload_n 0, 1) := by decide +kernel
theorem dX11_kindOf_51 : decode cX11_kindOf 51 = .ok (.bipush 116, 2) := by decide +kernel
theorem dX11_kindOf_53 : decode cX11_kindOf 53 = .ok (.if_icmp .ne 7, 3) := by decide +kernel
theorem dX11_kindOf_56 : decode cX11_kindOf 56 = .ok (.iconst 5, 1) := by decide +kernel
theorem dX11_kindOf_57 : decode cX11_kindOf 57 = .ok (.goto 4, 3) := by decide +kernel
theorem dX11_kindOf_60 : decode cX11_kindOf 60 = .ok (.iconst (-1), 1) := by decide +kernel
theorem dX11_kindOf_61 : decode cX11_kindOf 61 = .ok (.ireturn, 1) := by decide +kernel
def f_M_kindOf (F : Nat) (s : St) (p0 : Int32) : Option (Int32 × St) :=
  if p0 = 110 then
    (some (0, s))
  else
    (if p0 = 115 then
      (some (1, s))
    else
      (if p0 = 109 then
        (some (2, s))
      else
        (if p0 = 120 then
          (some (3, s))
        else
          (if p0 = 100 then
            (some (4, s))
          else
            (if p0 = 116 then
              (some (5, s))
            else
              (some ((-1), s)))))))
set_option maxHeartbeats 1000000 in
theorem c_f_M_kindOf {F : Nat} {s : St} {p0 : Int32} {r : Int32} {s' : St} (hf : f_M_kindOf F s p0 = some (r, s')) : CC true yX11_kindOf (Cond.code yX11_kindOf cX11_kindOf 1 (some .int)) 0 0 (fun B => [.int p0]) s (fun B => (some (.int r))) s' 0 0 := by
  refine CC.of (fun B => [(0, .int p0)]) (by decide +kernel) (fun _ => rfl) (fun _ => (by simp [lg_sl, rfB_cat, catI, catL, catR])) (fun Γ D B X hr hin => ?_)
  have X : Cx Γ RX11 cX11_kindOf 1 D B { frames := 0, cells := 0, slots := 0, locals := 0 } := X
  unfold f_M_kindOf at hf
  refine r_iload_n (pc := 0) X dX11_kindOf_0 0 rfl ?_
  refine r_bipush (v := 110) (pc := 1) X dX11_kindOf_1 (by decide) ?_
  refine b_icmp_ne (tgt := 10) (pc := 3) X dX11_kindOf_3 (by decide) hf (fun hf => ?_) (fun hf => ?_)
  · refine r_iconst (v := 0) (pc := 6) X dX11_kindOf_6 (by decide) ?_
    refine r_goto (tgt := 61) (pc := 7) X dX11_kindOf_7 (by decide) ?_
    exact e_iret (pc := 61) X hr hf (Nat.le_refl _) (Nat.le_refl _) dX11_kindOf_61
  · refine r_iload_n (pc := 10) X dX11_kindOf_10 0 rfl ?_
    refine r_bipush (v := 115) (pc := 11) X dX11_kindOf_11 (by decide) ?_
    refine b_icmp_ne (tgt := 20) (pc := 13) X dX11_kindOf_13 (by decide) hf (fun hf => ?_) (fun hf => ?_)
    · refine r_iconst (v := 1) (pc := 16) X dX11_kindOf_16 (by decide) ?_
      refine r_goto (tgt := 61) (pc := 17) X dX11_kindOf_17 (by decide) ?_
      exact e_iret (pc := 61) X hr hf (Nat.le_refl _) (Nat.le_refl _) dX11_kindOf_61
    · refine r_iload_n (pc := 20) X dX11_kindOf_20 0 rfl ?_
      refine r_bipush (v := 109) (pc := 21) X dX11_kindOf_21 (by decide) ?_
      refine b_icmp_ne (tgt := 30) (pc := 23) X dX11_kindOf_23 (by decide) hf (fun hf => ?_) (fun hf => ?_)
      · refine r_iconst (v := 2) (pc := 26) X dX11_kindOf_26 (by decide) ?_
        refine r_goto (tgt := 61) (pc := 27) X dX11_kindOf_27 (by decide) ?_
        exact e_iret (pc := 61) X hr hf (Nat.le_refl _) (Nat.le_refl _) dX11_kindOf_61
      · refine r_iload_n (pc := 30) X dX11_kindOf_30 0 rfl ?_
        refine r_bipush (v := 120) (pc := 31) X dX11_kindOf_31 (by decide) ?_
        refine b_icmp_ne (tgt := 40) (pc := 33) X dX11_kindOf_33 (by decide) hf (fun hf => ?_) (fun hf => ?_)
        · refine r_iconst (v := 3) (pc := 36) X dX11_kindOf_36 (by decide) ?_
          refine r_goto (tgt := 61) (pc := 37) X dX11_kindOf_37 (by decide) ?_
          exact e_iret (pc := 61) X hr hf (Nat.le_refl _) (Nat.le_refl _) dX11_kindOf_61
        · refine r_iload_n (pc := 40) X dX11_kindOf_40 0 rfl ?_
          refine r_bipush (v := 100) (pc := 41) X dX11_kindOf_41 (by decide) ?_
          refine b_icmp_ne (tgt := 50) (pc := 43) X dX11_kindOf_43 (by decide) hf (fun hf => ?_) (fun hf => ?_)
          · refine r_iconst (v := 4) (pc := 46) X dX11_kindOf_46 (by decide) ?_
            refine r_goto (tgt := 61) (pc := 47) X dX11_kindOf_47 (by decide) ?_
            exact e_iret (pc := 61) X hr hf (Nat.le_refl _) (Nat.le_refl _) dX11_kindOf_61
          · refine r_iload_n (pc := 50) X dX11_kindOf_50 0 rfl ?_
            refine r_bipush (v := 116) (pc := 51) X dX11_kindOf_51 (by decide) ?_
            refine b_icmp_ne (tgt := 60) (pc := 53) X dX11_kindOf_53 (by decide) hf (fun hf => ?_) (fun hf => ?_)
            · refine r_iconst (v := 5) (pc := 56) X dX11_kindOf_56 (by decide) ?_
              refine r_goto (tgt := 61) (pc := 57) X dX11_kindOf_57 (by decide) ?_
              exact e_iret (pc := 61) X hr hf (Nat.le_refl _) (Nat.le_refl _) dX11_kindOf_61
            · refine r_iconst (v := -1) (pc := 60) X dX11_kindOf_60 (by decide) ?_
              exact e_iret (pc := 61) X hr hf (Nat.le_refl _) (Nat.le_refl _) dX11_kindOf_61
/-! f_M_rank -/
theorem dX11_rank_0 : decode cX11_rank 0 = .ok (.iload_n 0, 1) := by decide +kernel
theorem dX11_rank_1 : decode cX11_rank 1 = .ok (.bipush 42, 2) := by decide +kernel
theorem dX11_rank_3 : decode cX11_rank 3 = .ok (.if_icmp .eq 9, 3) := by decide +kernel
theorem dX11_rank_6 : decode cX11_rank 6 = .ok (.iload_n 0, 1) := by decide +kernel
theorem dX11_rank_7 : decode cX11_rank 7 = .ok (.bipush 47, 2) := by decide +kernel
theorem dX11_rank_9 : decode cX11_rank 9 = .ok (.if_icmp .ne 7, 3) := by decide +kernel
theorem dX11_rank_12 : decode cX11_rank 12 = .ok (.iconst 3, 1) := by decide +kernel
theorem dX11_rank_13 : decode cX11_rank 13 = .ok (.goto 42, 3) := by decide +kernel
theorem dX11_rank_16 : decode cX11_rank 16 = .ok (.iload_n 0, 1) := by decide +kernel
theorem dX11_rank_17 : decode cX11_rank 17 = .ok (.bipush 43, 2) := by decide +kernel
theorem dX11_rank_19 : decode cX11_rank 19 = .ok (.if_icmp .eq 9, 3) := by decide +kernel
theorem dX11_rank_22 : decode cX11_rank 22 = .ok (.iload_n 0, 1) := by decide +kernel
theorem dX11_rank_23 : decode cX11_rank 23 = .ok (.bipush 45, 2) := by decide +kernel
theorem dX11_rank_25 : decode cX11_rank 25 = .ok (.if_icmp .ne 7, 3) := by decide +kernel
theorem dX11_rank_28 : decode cX11_rank 28 = .ok (.iconst 2, 1) := by decide +kernel
theorem dX11_rank_29 : decode cX11_rank 29 = .ok (.goto 26, 3) := by decide +kernel
theorem dX11_rank_32 : decode cX11_rank 32 = .ok (.iload_n 0, 1) := by decide +kernel
theorem dX11_rank_33 : decode cX11_rank 33 = .ok (.bipush 60, 2) := by decide +kernel
theorem dX11_rank_35 : decode cX11_rank 35 = .ok (.if_icmp .eq 15, 3) := by decide +kernel
theorem dX11_rank_38 : decode cX11_rank 38 = .ok (.iload_n 0, 1) := by decide +kernel
theorem dX11_rank_39 : decode cX11_rank 39 = .ok (.bipush 62, 2) := by decide +kernel
theorem dX11_rank_41 : decode cX11_rank 41 = .ok (.if_icmp .eq 9, 3) := by decide +kernel
theorem dX11_rank_44 : decode cX11_rank 44 = .ok (.iload_n 0, 1) := by decide +kernel
theorem dX11_rank_45 : decode cX11_rank 45 = .ok (.bipush 61, 2) := by decide +kernel
theorem dX11_rank_47 : decode cX11_rank 47 = .ok (.if_icmp .ne 7, 3) := by decide +kernel
theorem dX11_rank_50 : decode cX11_rank 50 = .ok (.iconst 1, 1) := by decide +kernel
theorem dX11_rank_51 : decode cX11_rank 51 = .ok (.goto 4, 3) := by decide +kernel
theorem dX11_rank_54 : decode cX11_rank 54 = .ok (.iconst 0, 1) := by decide +kernel
theorem dX11_rank_55 : decode cX11_rank 55 = .ok (.ireturn, 1) := by decide +kernel
def f_M_rank (F : Nat) (s : St) (p0 : Int32) : Option (Int32 × St) :=
  if p0 = 42 then
    (some (3, s))
  else
    (if p0 = 47 then
      (some (3, s))
    else
      (if p0 = 43 then
        (some (2, s))
      else
        (if p0 = 45 then
          (some (2, s))
        else
          (if p0 = 60 then
            (some (1, s))
          else
            (if p0 = 62 then
              (some (1, s))
            else
              (if p0 = 61 then
                (some (1, s))
              else
                (some (0, s))))))))
set_option maxHeartbeats 1000000 in
theorem c_f_M_rank {F : Nat} {s : St} {p0 : Int32} {r : Int32} {s' : St} (hf : f_M_rank F s p0 = some (r, s')) : CC true yX11_rank (Cond.code yX11_rank cX11_rank 1 (some .int)) 0 0 (fun B => [.int p0]) s (fun B => (some (.int r))) s' 0 0 := by
  refine CC.of (fun B => [(0, .int p0)]) (by decide +kernel) (fun _ => rfl) (fun _ => (by simp [lg_sl, rfB_cat, catI, catL, catR])) (fun Γ D B X hr hin => ?_)
  have X : Cx Γ RX11 cX11_rank 1 D B { frames := 0, cells := 0, slots := 0, locals := 0 } := X
  unfold f_M_rank at hf
  refine r_iload_n (pc := 0) X dX11_rank_0 0 rfl ?_
  refine r_bipush (v := 42) (pc := 1) X dX11_rank_1 (by decide) ?_
  refine b_icmp_eq (tgt := 12) (pc := 3) X dX11_rank_3 (by decide) hf (fun hf => ?_) (fun hf => ?_)
  · refine r_iconst (v := 3) (pc := 12) X dX11_rank_12 (by decide) ?_
    refine r_goto (tgt := 55) (pc := 13) X dX11_rank_13 (by decide) ?_
    exact e_iret (pc := 55) X hr hf (Nat.le_refl _) (Nat.le_refl _) dX11_rank_55
  · refine r_iload_n (pc := 6) X dX11_rank_6 0 rfl ?_
    refine r_bipush (v := 47) (pc := 7) X dX11_rank_7 (by decide) ?_
    refine b_icmp_ne (tgt := 16) (pc := 9) X dX11_rank_9 (by decide) hf (fun hf => ?_) (fun hf => ?_)
    · refine r_iconst (v := 3) (pc := 12) X dX11_rank_12 (by decide) ?_
      refine r_goto (tgt := 55) (pc := 13) X dX11_rank_13 (by decide) ?_
      exact e_iret (pc := 55) X hr hf (Nat.le_refl _) (Nat.le_refl _) dX11_rank_55
    · refine r_iload_n (pc := 16) X dX11_rank_16 0 rfl ?_
      refine r_bipush (v := 43) (pc := 17) X dX11_rank_17 (by decide) ?_
      refine b_icmp_eq (tgt := 28) (pc := 19) X dX11_rank_19 (by decide) hf (fun hf => ?_) (fun hf => ?_)
      · refine r_iconst (v := 2) (pc := 28) X dX11_rank_28 (by decide) ?_
        refine r_goto (tgt := 55) (pc := 29) X dX11_rank_29 (by decide) ?_
        exact e_iret (pc := 55) X hr hf (Nat.le_refl _) (Nat.le_refl _) dX11_rank_55
      · refine r_iload_n (pc := 22) X dX11_rank_22 0 rfl ?_
        refine r_bipush (v := 45) (pc := 23) X dX11_rank_23 (by decide) ?_
        refine b_icmp_ne (tgt := 32) (pc := 25) X dX11_rank_25 (by decide) hf (fun hf => ?_) (fun hf => ?_)
        · refine r_iconst (v := 2) (pc := 28) X dX11_rank_28 (by decide) ?_
          refine r_goto (tgt := 55) (pc := 29) X dX11_rank_29 (by decide) ?_
          exact e_iret (pc := 55) X hr hf (Nat.le_refl _) (Nat.le_refl _) dX11_rank_55
        · refine r_iload_n (pc := 32) X dX11_rank_32 0 rfl ?_
          refine r_bipush (v := 60) (pc := 33) X dX11_rank_33 (by decide) ?_
          refine b_icmp_eq (tgt := 50) (pc := 35) X dX11_rank_35 (by decide) hf (fun hf => ?_) (fun hf => ?_)
          · refine r_iconst (v := 1) (pc := 50) X dX11_rank_50 (by decide) ?_
            refine r_goto (tgt := 55) (pc := 51) X dX11_rank_51 (by decide) ?_
            exact e_iret (pc := 55) X hr hf (Nat.le_refl _) (Nat.le_refl _) dX11_rank_55
          · refine r_iload_n (pc := 38) X dX11_rank_38 0 rfl ?_
            refine r_bipush (v := 62) (pc := 39) X dX11_rank_39 (by decide) ?_
            refine b_icmp_eq (tgt := 50) (pc := 41) X dX11_rank_41 (by decide) hf (fun hf => ?_) (fun hf => ?_)
            · refine r_iconst (v := 1) (pc := 50) X dX11_rank_50 (by decide) ?_
              refine r_goto (tgt := 55) (pc := 51) X dX11_rank_51 (by decide) ?_
              exact e_iret (pc := 55) X hr hf (Nat.le_refl _) (Nat.le_refl _) dX11_rank_55
            · refine r_iload_n (pc := 44) X dX11_rank_44 0 rfl ?_
              refine r_bipush (v := 61) (pc := 45) X dX11_rank_45 (by decide) ?_
              refine b_icmp_ne (tgt := 54) (pc := 47) X dX11_rank_47 (by decide) hf (fun hf => ?_) (fun hf => ?_)
              · refine r_iconst (v := 1) (pc := 50) X dX11_rank_50 (by decide) ?_
                refine r_goto (tgt := 55) (pc := 51) X dX11_rank_51 (by decide) ?_
                exact e_iret (pc := 55) X hr hf (Nat.le_refl _) (Nat.le_refl _) dX11_rank_55
              · refine r_iconst (v := 0) (pc := 54) X dX11_rank_54 (by decide) ?_
                exact e_iret (pc := 55) X hr hf (Nat.le_refl _) (Nat.le_refl _) dX11_rank_55
/-! f_M_endsUnit -/
theorem dX11_endsUnit_0 : decode cX11_endsUnit 0 = .ok (.aload_n 0, 1) := by decide +kernel
theorem dX11_endsUnit_1 : decode cX11_endsUnit 1 = .ok (.getfield 113, 3) := by decide +kernel
theorem dX11_endsUnit_4 : decode cX11_endsUnit 4 = .ok (.ifCond .le 37, 3) := by decide +kernel
theorem dX11_endsUnit_7 : decode cX11_endsUnit 7 = .ok (.aload_n 0, 1) := by decide +kernel
theorem dX11_endsUnit_8 : decode cX11_endsUnit 8 = .ok (.getfield 31, 3) := by decide +kernel
theorem dX11_endsUnit_11 : decode cX11_endsUnit 11 = .ok (.aload_n 0, 1) := by decide +kernel
theorem dX11_endsUnit_12 : decode cX11_endsUnit 12 = .ok (.getfield 113, 3) := by decide +kernel
theorem dX11_endsUnit_15 : decode cX11_endsUnit 15 = .ok (.iconst 1, 1) := by decide +kernel
theorem dX11_endsUnit_16 : decode cX11_endsUnit 16 = .ok (.isub, 1) := by decide +kernel
theorem dX11_endsUnit_17 : decode cX11_endsUnit 17 = .ok (.iaload, 1) := by decide +kernel
theorem dX11_endsUnit_18 : decode cX11_endsUnit 18 = .ok (.iconst 2, 1) := by decide +kernel
theorem dX11_endsUnit_19 : decode cX11_endsUnit 19 = .ok (.if_icmp .ne 22, 3) := by decide +kernel
theorem dX11_endsUnit_22 : decode cX11_endsUnit 22 = .ok (.aload_n 0, 1) := by decide +kernel
theorem dX11_endsUnit_23 : decode cX11_endsUnit 23 = .ok (.dup, 1) := by decide +kernel
theorem dX11_endsUnit_24 : decode cX11_endsUnit 24 = .ok (.getfield 113, 3) := by decide +kernel
theorem dX11_endsUnit_27 : decode cX11_endsUnit 27 = .ok (.iconst 1, 1) := by decide +kernel
theorem dX11_endsUnit_28 : decode cX11_endsUnit 28 = .ok (.isub, 1) := by decide +kernel
theorem dX11_endsUnit_29 : decode cX11_endsUnit 29 = .ok (.putfield 113, 3) := by decide +kernel
theorem dX11_endsUnit_32 : decode cX11_endsUnit 32 = .ok (.aload_n 0, 1) := by decide +kernel
theorem dX11_endsUnit_33 : decode cX11_endsUnit 33 = .ok (.iconst 2, 1) := by decide +kernel
theorem dX11_endsUnit_34 : decode cX11_endsUnit 34 = .ok (.iconst 0, 1) := by decide +kernel
theorem dX11_endsUnit_35 : decode cX11_endsUnit 35 = .ok (.invokevirtual 116, 3) := by decide +kernel
theorem dX11_endsUnit_38 : decode cX11_endsUnit 38 = .ok (.goto (-38), 3) := by decide +kernel
theorem dX11_endsUnit_41 : decode cX11_endsUnit 41 = .ok (.aload_n 0, 1) := by decide +kernel
theorem dX11_endsUnit_42 : decode cX11_endsUnit 42 = .ok (.iconst 2, 1) := by decide +kernel
theorem dX11_endsUnit_43 : decode cX11_endsUnit 43 = .ok (.putfield 120, 3) := by decide +kernel
theorem dX11_endsUnit_46 : decode cX11_endsUnit 46 = .ok (.return_, 1) := by decide +kernel
def f_M_endsUnit_b0 (F : Nat) : Nat → St → Option (St)
  | 0, _ => none
  | n + 1, s =>
    if (gI s 2515) ≤ 0 then
      (lt (sI s 2505 2) fun s1 => (some s1))
    else
      ((ix 64 ((gI s 2515) - 1)).bind fun j2 => (if (gA s 47 j2) = 2 then
        (lt (sI s 2515 ((gI s 2515) - 1)) fun s3 => ((f_M_puts F s3 2 0).bind fun x4 => (f_M_endsUnit_b0 F n x4)))
      else
        (lt (sI s 2505 2) fun s5 => (some s5))))
def f_M_endsUnit (F : Nat) (s : St)  : Option (St) :=
  f_M_endsUnit_b0 F F s
set_option maxHeartbeats 1000000 in
theorem c_f_M_endsUnit_b0 {F : Nat} {Γ : Ga} {D : DD} {B : Nat} {s' : St} (X : Cx Γ RX11 cX11_endsUnit 1 D B { frames := 1, cells := 0, slots := 0, locals := 23 }) (hr : (Gme Γ).sig.returnType = none) : ∀ (n : Nat) {s : St} , f_M_endsUnit_b0 F n s  = some s' → V Γ D B true 1 (QM Γ D B true s' none 0 0) 0 0 s 0 [(0, .ref (B + 39))] [] := by
  intro n
  induction n with
  | zero => intro s  hf; rw [f_M_endsUnit_b0] at hf; cases hf
  | succ n ih =>
    intro s  hf
    rw [f_M_endsUnit_b0] at hf
    refine r_aload_n (x := some 39) (pc := 0) X dX11_endsUnit_0 0 rfl ?_
    refine r_get (j := 19) (pc := 1) X ce_39 rfl inT11 (by decide) w_1099 rfl dX11_endsUnit_1 ?_
    refine b_if_le (tgt := 41) (pc := 4) X dX11_endsUnit_4 (by decide) hf (fun hf => ?_) (fun hf => ?_)
    · refine r_aload_n (x := some 39) (pc := 41) X dX11_endsUnit_41 0 rfl ?_
      refine r_iconst (v := 2) (pc := 42) X dX11_endsUnit_42 (by decide) ?_
      refine b_put (j := 9) (pc := 43) X ce_39 rfl inT11 tyX11 tyX11_ok nmX11 (by decide) w_1089 rfl (tyX11_ok 9 (by decide)) rfl rfl (Nat.le_of_ble_eq_true rfl) (cp_2505 _) rfl rfl dX11_endsUnit_43 hf (fun s1 hf => ?_)
      exact e_vret (pc := 46) X hr hf (Nat.le_refl _) (Nat.le_refl _) dX11_endsUnit_46
    · refine r_aload_n (x := some 39) (pc := 7) X dX11_endsUnit_7 0 rfl ?_
      refine r_get (j := 18) (pc := 8) X ce_39 rfl inT11 (by decide) w_1098 rfl dX11_endsUnit_8 ?_
      refine r_aload_n (x := some 39) (pc := 11) X dX11_endsUnit_11 0 rfl ?_
      refine r_get (j := 19) (pc := 12) X ce_39 rfl inT11 (by decide) w_1099 rfl dX11_endsUnit_12 ?_
      refine r_iconst (v := 1) (pc := 15) X dX11_endsUnit_15 (by decide) ?_
      refine r_isub (pc := 16) X dX11_endsUnit_16 ?_
      refine b_iald (pc := 17) X ce_47 dX11_endsUnit_17 hf (fun j2 hf => ?_)
      refine r_iconst (v := 2) (pc := 18) X dX11_endsUnit_18 (by decide) ?_
      refine b_icmp_ne (tgt := 41) (pc := 19) X dX11_endsUnit_19 (by decide) hf (fun hf => ?_) (fun hf => ?_)
      · refine r_aload_n (x := some 39) (pc := 22) X dX11_endsUnit_22 0 rfl ?_
        refine r_dup (pc := 23) X dX11_endsUnit_23 rfl ?_
        refine r_get (j := 19) (pc := 24) X ce_39 rfl inT11 (by decide) w_1099 rfl dX11_endsUnit_24 ?_
        refine r_iconst (v := 1) (pc := 27) X dX11_endsUnit_27 (by decide) ?_
        refine r_isub (pc := 28) X dX11_endsUnit_28 ?_
        refine b_put (j := 19) (pc := 29) X ce_39 rfl inT11 tyX11 tyX11_ok nmX11 (by decide) w_1099 rfl (tyX11_ok 19 (by decide)) rfl rfl (Nat.le_of_ble_eq_true rfl) (cp_2515 _) rfl rfl dX11_endsUnit_29 hf (fun s3 hf => ?_)
        refine r_aload_n (x := some 39) (pc := 32) X dX11_endsUnit_32 0 rfl ?_
        refine r_iconst (v := 2) (pc := 33) X dX11_endsUnit_33 (by decide) ?_
        refine r_iconst (v := 0) (pc := 34) X dX11_endsUnit_34 (by decide) ?_
        refine bnd hf (fun x4 h4 hf => ?_)
        refine r_callVv (As := [.int 2, .int 0]) (st := []) (pc := 35) X (c_f_M_puts h4) rfl w_1291 w_1293 w_40 w_84 w_1294 hdV_X11_puts (Rc.s rfl ce_39) (by decide) (by decide) (by decide) (Nat.le_of_ble_eq_true rfl) dX11_endsUnit_35 rfl ?_
        refine r_goto (tgt := 0) (pc := 38) X dX11_endsUnit_38 (by decide) ?_
        exact ih hf
      · refine r_aload_n (x := some 39) (pc := 41) X dX11_endsUnit_41 0 rfl ?_
        refine r_iconst (v := 2) (pc := 42) X dX11_endsUnit_42 (by decide) ?_
        refine b_put (j := 9) (pc := 43) X ce_39 rfl inT11 tyX11 tyX11_ok nmX11 (by decide) w_1089 rfl (tyX11_ok 9 (by decide)) rfl rfl (Nat.le_of_ble_eq_true rfl) (cp_2505 _) rfl rfl dX11_endsUnit_43 hf (fun s5 hf => ?_)
        exact e_vret (pc := 46) X hr hf (Nat.le_refl _) (Nat.le_refl _) dX11_endsUnit_46
set_option maxHeartbeats 1000000 in
theorem c_f_M_endsUnit {F : Nat} {s : St}  {s' : St} (hf : f_M_endsUnit F s  = some s') : CC true yX11_endsUnit (Cond.code yX11_endsUnit cX11_endsUnit 1 none) 1 23 (fun B => [.ref (B + 39)]) s (fun B => none) s' 0 0 := by
  refine CC.of (fun B => [(0, .ref (B + 39))]) (by decide +kernel) (fun _ => rfl) (fun _ => (by simp [lg_sl, rfB_cat, catI, catL, catR])) (fun Γ D B X hr hin => ?_)
  have X : Cx Γ RX11 cX11_endsUnit 1 D B { frames := 1, cells := 0, slots := 0, locals := 23 } := X
  unfold f_M_endsUnit at hf
  exact c_f_M_endsUnit_b0 X hr _ hf
/-! f_M_putsWaiting -/
theorem dX11_putsWaiting_0 : decode cX11_putsWaiting 0 = .ok (.aload_n 0, 1) := by decide +kernel
theorem dX11_putsWaiting_1 : decode cX11_putsWaiting 1 = .ok (.getfield 113, 3) := by decide +kernel
theorem dX11_putsWaiting_4 : decode cX11_putsWaiting 4 = .ok (.ifCond .le 48, 3) := by decide +kernel
theorem dX11_putsWaiting_7 : decode cX11_putsWaiting 7 = .ok (.aload_n 0, 1) := by decide +kernel
theorem dX11_putsWaiting_8 : decode cX11_putsWaiting 8 = .ok (.getfield 31, 3) := by decide +kernel
theorem dX11_putsWaiting_11 : decode cX11_putsWaiting 11 = .ok (.aload_n 0, 1) := by decide +kernel
theorem dX11_putsWaiting_12 : decode cX11_putsWaiting 12 = .ok (.getfield 113, 3) := by decide +kernel
theorem dX11_putsWaiting_15 : decode cX11_putsWaiting 15 = .ok (.iconst 1, 1) := by decide +kernel
theorem dX11_putsWaiting_16 : decode cX11_putsWaiting 16 = .ok (.isub, 1) := by decide +kernel
theorem dX11_putsWaiting_17 : decode cX11_putsWaiting 17 = .ok (.iaload, 1) := by decide +kernel
theorem dX11_putsWaiting_18 : decode cX11_putsWaiting 18 = .ok (.invokestatic 123, 3) := by decide +kernel
theorem dX11_putsWaiting_21 : decode cX11_putsWaiting 21 = .ok (.iload_n 1, 1) := by decide +kernel
theorem dX11_putsWaiting_22 : decode cX11_putsWaiting 22 = .ok (.if_icmp .lt 30, 3) := by decide +kernel
theorem dX11_putsWaiting_25 : decode cX11_putsWaiting 25 = .ok (.aload_n 0, 1) := by decide +kernel
theorem dX11_putsWaiting_26 : decode cX11_putsWaiting 26 = .ok (.dup, 1) := by decide +kernel
theorem dX11_putsWaiting_27 : decode cX11_putsWaiting 27 = .ok (.getfield 113, 3) := by decide +kernel
theorem dX11_putsWaiting_30 : decode cX11_putsWaiting 30 = .ok (.iconst 1, 1) := by decide +kernel
theorem dX11_putsWaiting_31 : decode cX11_putsWaiting 31 = .ok (.isub, 1) := by decide +kernel
theorem dX11_putsWaiting_32 : decode cX11_putsWaiting 32 = .ok (.putfield 113, 3) := by decide +kernel
theorem dX11_putsWaiting_35 : decode cX11_putsWaiting 35 = .ok (.aload_n 0, 1) := by decide +kernel
theorem dX11_putsWaiting_36 : decode cX11_putsWaiting 36 = .ok (.aload_n 0, 1) := by decide +kernel
theorem dX11_putsWaiting_37 : decode cX11_putsWaiting 37 = .ok (.getfield 31, 3) := by decide +kernel
theorem dX11_putsWaiting_40 : decode cX11_putsWaiting 40 = .ok (.aload_n 0, 1) := by decide +kernel
theorem dX11_putsWaiting_41 : decode cX11_putsWaiting 41 = .ok (.getfield 113, 3) := by decide +kernel
theorem dX11_putsWaiting_44 : decode cX11_putsWaiting 44 = .ok (.iaload, 1) := by decide +kernel
theorem dX11_putsWaiting_45 : decode cX11_putsWaiting 45 = .ok (.iconst 0, 1) := by decide +kernel
theorem dX11_putsWaiting_46 : decode cX11_putsWaiting 46 = .ok (.invokevirtual 116, 3) := by decide +kernel
theorem dX11_putsWaiting_49 : decode cX11_putsWaiting 49 = .ok (.goto (-49), 3) := by decide +kernel
theorem dX11_putsWaiting_52 : decode cX11_putsWaiting 52 = .ok (.return_, 1) := by decide +kernel
def f_M_putsWaiting_b0 (F : Nat) : Nat → St → Int32 → Option (St)
  | 0, _, _ => none
  | n + 1, s, l1 =>
    if (gI s 2515) ≤ 0 then
      (some s)
    else
      ((ix 64 ((gI s 2515) - 1)).bind fun j1 => ((f_M_rank F s (gA s 47 j1)).bind fun x2 => (if x2.1 < l1 then
        (some x2.2)
      else
        (lt (sI x2.2 2515 ((gI x2.2 2515) - 1)) fun s3 => ((ix 64 (gI s3 2515)).bind fun j4 => ((f_M_puts F s3 (gA s3 47 j4) 0).bind fun x5 => (f_M_putsWaiting_b0 F n x5 l1)))))))
def f_M_putsWaiting (F : Nat) (s : St) (p1 : Int32) : Option (St) :=
  f_M_putsWaiting_b0 F F s p1
set_option maxHeartbeats 1000000 in
theorem c_f_M_putsWaiting_b0 {F : Nat} {Γ : Ga} {D : DD} {B : Nat} {s' : St} (X : Cx Γ RX11 cX11_putsWaiting 2 D B { frames := 1, cells := 0, slots := 0, locals := 23 }) (hr : (Gme Γ).sig.returnType = none) : ∀ (n : Nat) {s : St} {l1 : Int32}, f_M_putsWaiting_b0 F n s l1 = some s' → V Γ D B true 2 (QM Γ D B true s' none 0 0) 0 0 s 0 [(0, .ref (B + 39)), (1, .int l1)] [] := by
  intro n
  induction n with
  | zero => intro s l1 hf; rw [f_M_putsWaiting_b0] at hf; cases hf
  | succ n ih =>
    intro s l1 hf
    rw [f_M_putsWaiting_b0] at hf
    refine r_aload_n (x := some 39) (pc := 0) X dX11_putsWaiting_0 0 rfl ?_
    refine r_get (j := 19) (pc := 1) X ce_39 rfl inT11 (by decide) w_1099 rfl dX11_putsWaiting_1 ?_
    refine b_if_le (tgt := 52) (pc := 4) X dX11_putsWaiting_4 (by decide) hf (fun hf => ?_) (fun hf => ?_)
    · exact e_vret (pc := 52) X hr hf (Nat.le_refl _) (Nat.le_refl _) dX11_putsWaiting_52
    · refine r_aload_n (x := some 39) (pc := 7) X dX11_putsWaiting_7 0 rfl ?_
      refine r_get (j := 18) (pc := 8) X ce_39 rfl inT11 (by decide) w_1098 rfl dX11_putsWaiting_8 ?_
      refine r_aload_n (x := some 39) (pc := 11) X dX11_putsWaiting_11 0 rfl ?_
      refine r_get (j := 19) (pc := 12) X ce_39 rfl inT11 (by decide) w_1099 rfl dX11_putsWaiting_12 ?_
      refine r_iconst (v := 1) (pc := 15) X dX11_putsWaiting_15 (by decide) ?_
      refine r_isub (pc := 16) X dX11_putsWaiting_16 ?_
      refine b_iald (pc := 17) X ce_47 dX11_putsWaiting_17 hf (fun j1 hf => ?_)
      refine bnd hf (fun x2 h2 hf => ?_)
      refine r_callSi (As := [.int (gA s 47 j1)]) (st := []) (pc := 18) X (c_f_M_rank h2) rfl w_1318 w_1319 w_84 w_1320 hdS_X11_rank (by decide) (by decide) (by decide) (Nat.le_of_ble_eq_true rfl) dX11_putsWaiting_18 rfl ?_
      refine r_iload_n (pc := 21) X dX11_putsWaiting_21 1 rfl ?_
      refine b_icmp_lt (tgt := 52) (pc := 22) X dX11_putsWaiting_22 (by decide) hf (fun hf => ?_) (fun hf => ?_)
      · exact e_vret (pc := 52) X hr hf (Nat.le_refl _) (Nat.le_refl _) dX11_putsWaiting_52
      · refine r_aload_n (x := some 39) (pc := 25) X dX11_putsWaiting_25 0 rfl ?_
        refine r_dup (pc := 26) X dX11_putsWaiting_26 rfl ?_
        refine r_get (j := 19) (pc := 27) X ce_39 rfl inT11 (by decide) w_1099 rfl dX11_putsWaiting_27 ?_
        refine r_iconst (v := 1) (pc := 30) X dX11_putsWaiting_30 (by decide) ?_
        refine r_isub (pc := 31) X dX11_putsWaiting_31 ?_
        refine b_put (j := 19) (pc := 32) X ce_39 rfl inT11 tyX11 tyX11_ok nmX11 (by decide) w_1099 rfl (tyX11_ok 19 (by decide)) rfl rfl (Nat.le_of_ble_eq_true rfl) (cp_2515 _) rfl rfl dX11_putsWaiting_32 hf (fun s3 hf => ?_)
        refine r_aload_n (x := some 39) (pc := 35) X dX11_putsWaiting_35 0 rfl ?_
        refine r_aload_n (x := some 39) (pc := 36) X dX11_putsWaiting_36 0 rfl ?_
        refine r_get (j := 18) (pc := 37) X ce_39 rfl inT11 (by decide) w_1098 rfl dX11_putsWaiting_37 ?_
        refine r_aload_n (x := some 39) (pc := 40) X dX11_putsWaiting_40 0 rfl ?_
        refine r_get (j := 19) (pc := 41) X ce_39 rfl inT11 (by decide) w_1099 rfl dX11_putsWaiting_41 ?_
        refine b_iald (pc := 44) X ce_47 dX11_putsWaiting_44 hf (fun j4 hf => ?_)
        refine r_iconst (v := 0) (pc := 45) X dX11_putsWaiting_45 (by decide) ?_
        refine bnd hf (fun x5 h5 hf => ?_)
        refine r_callVv (As := [.int (gA s3 47 j4), .int 0]) (st := []) (pc := 46) X (c_f_M_puts h5) rfl w_1291 w_1293 w_40 w_84 w_1294 hdV_X11_puts (Rc.s rfl ce_39) (by decide) (by decide) (by decide) (Nat.le_of_ble_eq_true rfl) dX11_putsWaiting_46 rfl ?_
        refine r_goto (tgt := 0) (pc := 49) X dX11_putsWaiting_49 (by decide) ?_
        exact ih hf
set_option maxHeartbeats 1000000 in
theorem c_f_M_putsWaiting {F : Nat} {s : St} {p1 : Int32} {s' : St} (hf : f_M_putsWaiting F s p1 = some s') : CC true yX11_putsWaiting (Cond.code yX11_putsWaiting cX11_putsWaiting 2 none) 1 23 (fun B => [.ref (B + 39), .int p1]) s (fun B => none) s' 0 0 := by
  refine CC.of (fun B => [(0, .ref (B + 39)), (1, .int p1)]) (by decide +kernel) (fun _ => rfl) (fun _ => (by simp [lg_sl, rfB_cat, catI, catL, catR])) (fun Γ D B X hr hin => ?_)
  have X : Cx Γ RX11 cX11_putsWaiting 2 D B { frames := 1, cells := 0, slots := 0, locals := 23 } := X
  unfold f_M_putsWaiting at hf
  exact c_f_M_putsWaiting_b0 X hr _ hf
/-! f_M_endsTerm -/
theorem dX11_endsTerm_0 : decode cX11_endsTerm 0 = .ok (.aload_n 0, 1) := by decide +kernel
theorem dX11_endsTerm_1 : decode cX11_endsTerm 1 = .ok (.getfield 127, 3) := by decide +kernel
theorem dX11_endsTerm_4 : decode cX11_endsTerm 4 = .ok (.ifCond .le 39, 3) := by decide +kernel
theorem dX11_endsTerm_7 : decode cX11_endsTerm 7 = .ok (.aload_n 0, 1) := by decide +kernel
theorem dX11_endsTerm_8 : decode cX11_endsTerm 8 = .ok (.getfield 34, 3) := by decide +kernel
theorem dX11_endsTerm_11 : decode cX11_endsTerm 11 = .ok (.aload_n 0, 1) := by decide +kernel
theorem dX11_endsTerm_12 : decode cX11_endsTerm 12 = .ok (.getfield 127, 3) := by decide +kernel
theorem dX11_endsTerm_15 : decode cX11_endsTerm 15 = .ok (.iconst 1, 1) := by decide +kernel
theorem dX11_endsTerm_16 : decode cX11_endsTerm 16 = .ok (.isub, 1) := by decide +kernel
theorem dX11_endsTerm_17 : decode cX11_endsTerm 17 = .ok (.iaload, 1) := by decide +kernel
theorem dX11_endsTerm_18 : decode cX11_endsTerm 18 = .ok (.bipush 33, 2) := by decide +kernel
theorem dX11_endsTerm_20 : decode cX11_endsTerm 20 = .ok (.if_icmp .ne 23, 3) := by decide +kernel
theorem dX11_endsTerm_23 : decode cX11_endsTerm 23 = .ok (.aload_n 0, 1) := by decide +kernel
theorem dX11_endsTerm_24 : decode cX11_endsTerm 24 = .ok (.dup, 1) := by decide +kernel
theorem dX11_endsTerm_25 : decode cX11_endsTerm 25 = .ok (.getfield 127, 3) := by decide +kernel
theorem dX11_endsTerm_28 : decode cX11_endsTerm 28 = .ok (.iconst 1, 1) := by decide +kernel
theorem dX11_endsTerm_29 : decode cX11_endsTerm 29 = .ok (.isub, 1) := by decide +kernel
theorem dX11_endsTerm_30 : decode cX11_endsTerm 30 = .ok (.putfield 127, 3) := by decide +kernel
theorem dX11_endsTerm_33 : decode cX11_endsTerm 33 = .ok (.aload_n 0, 1) := by decide +kernel
theorem dX11_endsTerm_34 : decode cX11_endsTerm 34 = .ok (.bipush 33, 2) := by decide +kernel
theorem dX11_endsTerm_36 : decode cX11_endsTerm 36 = .ok (.iconst 0, 1) := by decide +kernel
theorem dX11_endsTerm_37 : decode cX11_endsTerm 37 = .ok (.invokevirtual 130, 3) := by decide +kernel
theorem dX11_endsTerm_40 : decode cX11_endsTerm 40 = .ok (.goto (-40), 3) := by decide +kernel
theorem dX11_endsTerm_43 : decode cX11_endsTerm 43 = .ok (.aload_n 0, 1) := by decide +kernel
theorem dX11_endsTerm_44 : decode cX11_endsTerm 44 = .ok (.bipush 11, 2) := by decide +kernel
theorem dX11_endsTerm_46 : decode cX11_endsTerm 46 = .ok (.putfield 120, 3) := by decide +kernel
theorem dX11_endsTerm_49 : decode cX11_endsTerm 49 = .ok (.return_, 1) := by decide +kernel
def f_M_endsTerm_b0 (F : Nat) : Nat → St → Option (St)
  | 0, _ => none
  | n + 1, s =>
    if (gI s 2517) ≤ 0 then
      (lt (sI s 2505 11) fun s1 => (some s1))
    else
      ((ix 64 ((gI s 2517) - 1)).bind fun j2 => (if (gA s 48 j2) = 33 then
        (lt (sI s 2517 ((gI s 2517) - 1)) fun s3 => ((f_M_putsAsk F s3 33 0).bind fun x4 => (f_M_endsTerm_b0 F n x4)))
      else
        (lt (sI s 2505 11) fun s5 => (some s5))))
def f_M_endsTerm (F : Nat) (s : St)  : Option (St) :=
  f_M_endsTerm_b0 F F s
set_option maxHeartbeats 1000000 in
theorem c_f_M_endsTerm_b0 {F : Nat} {Γ : Ga} {D : DD} {B : Nat} {s' : St} (X : Cx Γ RX11 cX11_endsTerm 1 D B { frames := 1, cells := 0, slots := 0, locals := 23 }) (hr : (Gme Γ).sig.returnType = none) : ∀ (n : Nat) {s : St} , f_M_endsTerm_b0 F n s  = some s' → V Γ D B true 1 (QM Γ D B true s' none 0 0) 0 0 s 0 [(0, .ref (B + 39))] [] := by
  intro n
  induction n with
  | zero => intro s  hf; rw [f_M_endsTerm_b0] at hf; cases hf
  | succ n ih =>
    intro s  hf
    rw [f_M_endsTerm_b0] at hf
    refine r_aload_n (x := some 39) (pc := 0) X dX11_endsTerm_0 0 rfl ?_
    refine r_get (j := 21) (pc := 1) X ce_39 rfl inT11 (by decide) w_1101 rfl dX11_endsTerm_1 ?_
    refine b_if_le (tgt := 43) (pc := 4) X dX11_endsTerm_4 (by decide) hf (fun hf => ?_) (fun hf => ?_)
    · refine r_aload_n (x := some 39) (pc := 43) X dX11_endsTerm_43 0 rfl ?_
      refine r_bipush (v := 11) (pc := 44) X dX11_endsTerm_44 (by decide) ?_
      refine b_put (j := 9) (pc := 46) X ce_39 rfl inT11 tyX11 tyX11_ok nmX11 (by decide) w_1089 rfl (tyX11_ok 9 (by decide)) rfl rfl (Nat.le_of_ble_eq_true rfl) (cp_2505 _) rfl rfl dX11_endsTerm_46 hf (fun s1 hf => ?_)
      exact e_vret (pc := 49) X hr hf (Nat.le_refl _) (Nat.le_refl _) dX11_endsTerm_49
    · refine r_aload_n (x := some 39) (pc := 7) X dX11_endsTerm_7 0 rfl ?_
      refine r_get (j := 20) (pc := 8) X ce_39 rfl inT11 (by decide) w_1100 rfl dX11_endsTerm_8 ?_
      refine r_aload_n (x := some 39) (pc := 11) X dX11_endsTerm_11 0 rfl ?_
      refine r_get (j := 21) (pc := 12) X ce_39 rfl inT11 (by decide) w_1101 rfl dX11_endsTerm_12 ?_
      refine r_iconst (v := 1) (pc := 15) X dX11_endsTerm_15 (by decide) ?_
      refine r_isub (pc := 16) X dX11_endsTerm_16 ?_
      refine b_iald (pc := 17) X ce_48 dX11_endsTerm_17 hf (fun j2 hf => ?_)
      refine r_bipush (v := 33) (pc := 18) X dX11_endsTerm_18 (by decide) ?_
      refine b_icmp_ne (tgt := 43) (pc := 20) X dX11_endsTerm_20 (by decide) hf (fun hf => ?_) (fun hf => ?_)
      · refine r_aload_n (x := some 39) (pc := 23) X dX11_endsTerm_23 0 rfl ?_
        refine r_dup (pc := 24) X dX11_endsTerm_24 rfl ?_
        refine r_get (j := 21) (pc := 25) X ce_39 rfl inT11 (by decide) w_1101 rfl dX11_endsTerm_25 ?_
        refine r_iconst (v := 1) (pc := 28) X dX11_endsTerm_28 (by decide) ?_
        refine r_isub (pc := 29) X dX11_endsTerm_29 ?_
        refine b_put (j := 21) (pc := 30) X ce_39 rfl inT11 tyX11 tyX11_ok nmX11 (by decide) w_1101 rfl (tyX11_ok 21 (by decide)) rfl rfl (Nat.le_of_ble_eq_true rfl) (cp_2517 _) rfl rfl dX11_endsTerm_30 hf (fun s3 hf => ?_)
        refine r_aload_n (x := some 39) (pc := 33) X dX11_endsTerm_33 0 rfl ?_
        refine r_bipush (v := 33) (pc := 34) X dX11_endsTerm_34 (by decide) ?_
        refine r_iconst (v := 0) (pc := 36) X dX11_endsTerm_36 (by decide) ?_
        refine bnd hf (fun x4 h4 hf => ?_)
        refine r_callVv (As := [.int 33, .int 0]) (st := []) (pc := 37) X (c_f_M_putsAsk h4) rfl w_1299 w_1301 w_42 w_84 w_1302 hdV_X11_putsAsk (Rc.s rfl ce_39) (by decide) (by decide) (by decide) (Nat.le_of_ble_eq_true rfl) dX11_endsTerm_37 rfl ?_
        refine r_goto (tgt := 0) (pc := 40) X dX11_endsTerm_40 (by decide) ?_
        exact ih hf
      · refine r_aload_n (x := some 39) (pc := 43) X dX11_endsTerm_43 0 rfl ?_
        refine r_bipush (v := 11) (pc := 44) X dX11_endsTerm_44 (by decide) ?_
        refine b_put (j := 9) (pc := 46) X ce_39 rfl inT11 tyX11 tyX11_ok nmX11 (by decide) w_1089 rfl (tyX11_ok 9 (by decide)) rfl rfl (Nat.le_of_ble_eq_true rfl) (cp_2505 _) rfl rfl dX11_endsTerm_46 hf (fun s5 hf => ?_)
        exact e_vret (pc := 49) X hr hf (Nat.le_refl _) (Nat.le_refl _) dX11_endsTerm_49
set_option maxHeartbeats 1000000 in
theorem c_f_M_endsTerm {F : Nat} {s : St}  {s' : St} (hf : f_M_endsTerm F s  = some s') : CC true yX11_endsTerm (Cond.code yX11_endsTerm cX11_endsTerm 1 none) 1 23 (fun B => [.ref (B + 39)]) s (fun B => none) s' 0 0 := by
  refine CC.of (fun B => [(0, .ref (B + 39))]) (by decide +kernel) (fun _ => rfl) (fun _ => (by simp [lg_sl, rfB_cat, catI, catL, catR])) (fun Γ D B X hr hin => ?_)
  have X : Cx Γ RX11 cX11_endsTerm 1 D B { frames := 1, cells := 0, slots := 0, locals := 23 } := X
  unfold f_M_endsTerm at hf
  exact c_f_M_endsTerm_b0 X hr _ hf
/-! f_M_askRank -/
theorem dX11_askRank_0 : decode cX11_askRank 0 = .ok (.iload_n 0, 1) := by decide +kernel
theorem dX11_askRank_1 : decode cX11_askRank 1 = .ok (.bipush 38, 2) := by decide +kernel
theorem dX11_askRank_3 : decode cX11_askRank 3 = .ok (.if_icmp .ne 7, 3) := by decide +kernel
theorem dX11_askRank_6 : decode cX11_askRank 6 = .ok (.iconst 2, 1) := by decide +kernel
theorem dX11_askRank_7 : decode cX11_askRank 7 = .ok (.goto 14, 3) := by decide +kernel
theorem dX11_askRank_10 : decode cX11_askRank 10 = .ok (.iload_n 0, 1) := by decide +kernel
theorem dX11_askRank_11 : decode cX11_askRank 11 = .ok (.bipush 124, 2) := by decide +kernel
theorem dX11_askRank_13 : decode cX11_askRank 13 = .ok (.if_icmp .ne 7, 3) := by decide +kernel
theorem dX11_askRank_16 : decode cX11_askRank 16 = .ok (.iconst 1, 1) := by decide +kernel
theorem dX11_askRank_17 : decode cX11_askRank 17 = .ok (.goto 4, 3) := by decide +kernel
theorem dX11_askRank_20 : decode cX11_askRank 20 = .ok (.iconst 0, 1) := by decide +kernel
theorem dX11_askRank_21 : decode cX11_askRank 21 = .ok (.ireturn, 1) := by decide +kernel
def f_M_askRank (F : Nat) (s : St) (p0 : Int32) : Option (Int32 × St) :=
  if p0 = 38 then
    (some (2, s))
  else
    (if p0 = 124 then
      (some (1, s))
    else
      (some (0, s)))
set_option maxHeartbeats 1000000 in
theorem c_f_M_askRank {F : Nat} {s : St} {p0 : Int32} {r : Int32} {s' : St} (hf : f_M_askRank F s p0 = some (r, s')) : CC true yX11_askRank (Cond.code yX11_askRank cX11_askRank 1 (some .int)) 0 0 (fun B => [.int p0]) s (fun B => (some (.int r))) s' 0 0 := by
  refine CC.of (fun B => [(0, .int p0)]) (by decide +kernel) (fun _ => rfl) (fun _ => (by simp [lg_sl, rfB_cat, catI, catL, catR])) (fun Γ D B X hr hin => ?_)
  have X : Cx Γ RX11 cX11_askRank 1 D B { frames := 0, cells := 0, slots := 0, locals := 0 } := X
  unfold f_M_askRank at hf
  refine r_iload_n (pc := 0) X dX11_askRank_0 0 rfl ?_
  refine r_bipush (v := 38) (pc := 1) X dX11_askRank_1 (by decide) ?_
  refine b_icmp_ne (tgt := 10) (pc := 3) X dX11_askRank_3 (by decide) hf (fun hf => ?_) (fun hf => ?_)
  · refine r_iconst (v := 2) (pc := 6) X dX11_askRank_6 (by decide) ?_
    refine r_goto (tgt := 21) (pc := 7) X dX11_askRank_7 (by decide) ?_
    exact e_iret (pc := 21) X hr hf (Nat.le_refl _) (Nat.le_refl _) dX11_askRank_21
  · refine r_iload_n (pc := 10) X dX11_askRank_10 0 rfl ?_
    refine r_bipush (v := 124) (pc := 11) X dX11_askRank_11 (by decide) ?_
    refine b_icmp_ne (tgt := 20) (pc := 13) X dX11_askRank_13 (by decide) hf (fun hf => ?_) (fun hf => ?_)
    · refine r_iconst (v := 1) (pc := 16) X dX11_askRank_16 (by decide) ?_
      refine r_goto (tgt := 21) (pc := 17) X dX11_askRank_17 (by decide) ?_
      exact e_iret (pc := 21) X hr hf (Nat.le_refl _) (Nat.le_refl _) dX11_askRank_21
    · refine r_iconst (v := 0) (pc := 20) X dX11_askRank_20 (by decide) ?_
      exact e_iret (pc := 21) X hr hf (Nat.le_refl _) (Nat.le_refl _) dX11_askRank_21
/-! f_M_putsAsked -/
theorem dX11_putsAsked_0 : decode cX11_putsAsked 0 = .ok (.aload_n 0, 1) := by decide +kernel
theorem dX11_putsAsked_1 : decode cX11_putsAsked 1 = .ok (.getfield 127, 3) := by decide +kernel
theorem dX11_putsAsked_4 : decode cX11_putsAsked 4 = .ok (.ifCond .le 48, 3) := by decide +kernel
theorem dX11_putsAsked_7 : decode cX11_putsAsked 7 = .ok (.aload_n 0, 1) := by decide +kernel
theorem dX11_putsAsked_8 : decode cX11_putsAsked 8 = .ok (.getfield 34, 3) := by decide +kernel
theorem dX11_putsAsked_11 : decode cX11_putsAsked 11 = .ok (.aload_n 0, 1) := by decide +kernel
theorem dX11_putsAsked_12 : decode cX11_putsAsked 12 = .ok (.getfield 127, 3) := by decide +kernel
theorem dX11_putsAsked_15 : decode cX11_putsAsked 15 = .ok (.iconst 1, 1) := by decide +kernel
theorem dX11_putsAsked_16 : decode cX11_putsAsked 16 = .ok (.isub, 1) := by decide +kernel
theorem dX11_putsAsked_17 : decode cX11_putsAsked 17 = .ok (.iaload, 1) := by decide +kernel
theorem dX11_putsAsked_18 : decode cX11_putsAsked 18 = .ok (.invokestatic 133, 3) := by decide +kernel
theorem dX11_putsAsked_21 : decode cX11_putsAsked 21 = .ok (.iload_n 1, 1) := by decide +kernel
theorem dX11_putsAsked_22 : decode cX11_putsAsked 22 = .ok (.if_icmp .lt 30, 3) := by decide +kernel
theorem dX11_putsAsked_25 : decode cX11_putsAsked 25 = .ok (.aload_n 0, 1) := by decide +kernel
theorem dX11_putsAsked_26 : decode cX11_putsAsked 26 = .ok (.dup, 1) := by decide +kernel
theorem dX11_putsAsked_27 : decode cX11_putsAsked 27 = .ok (.getfield 127, 3) := by decide +kernel
theorem dX11_putsAsked_30 : decode cX11_putsAsked 30 = .ok (.iconst 1, 1) := by decide +kernel
theorem dX11_putsAsked_31 : decode cX11_putsAsked 31 = .ok (.isub, 1) := by decide +kernel
theorem dX11_putsAsked_32 : decode cX11_putsAsked 32 = .ok (.putfield 127, 3) := by decide +kernel
theorem dX11_putsAsked_35 : decode cX11_putsAsked 35 = .ok (.aload_n 0, 1) := by decide +kernel
theorem dX11_putsAsked_36 : decode cX11_putsAsked 36 = .ok (.aload_n 0, 1) := by decide +kernel
theorem dX11_putsAsked_37 : decode cX11_putsAsked 37 = .ok (.getfield 34, 3) := by decide +kernel
theorem dX11_putsAsked_40 : decode cX11_putsAsked 40 = .ok (.aload_n 0, 1) := by decide +kernel
theorem dX11_putsAsked_41 : decode cX11_putsAsked 41 = .ok (.getfield 127, 3) := by decide +kernel
theorem dX11_putsAsked_44 : decode cX11_putsAsked 44 = .ok (.iaload, 1) := by decide +kernel
theorem dX11_putsAsked_45 : decode cX11_putsAsked 45 = .ok (.iconst 0, 1) := by decide +kernel
theorem dX11_putsAsked_46 : decode cX11_putsAsked 46 = .ok (.invokevirtual 130, 3) := by decide +kernel
theorem dX11_putsAsked_49 : decode cX11_putsAsked 49 = .ok (.goto (-49), 3) := by decide +kernel
theorem dX11_putsAsked_52 : decode cX11_putsAsked 52 = .ok (.return_, 1) := by decide +kernel
def f_M_putsAsked_b0 (F : Nat) : Nat → St → Int32 → Option (St)
  | 0, _, _ => none
  | n + 1, s, l1 =>
    if (gI s 2517) ≤ 0 then
      (some s)
    else
      ((ix 64 ((gI s 2517) - 1)).bind fun j1 => ((f_M_askRank F s (gA s 48 j1)).bind fun x2 => (if x2.1 < l1 then
        (some x2.2)
      else
        (lt (sI x2.2 2517 ((gI x2.2 2517) - 1)) fun s3 => ((ix 64 (gI s3 2517)).bind fun j4 => ((f_M_putsAsk F s3 (gA s3 48 j4) 0).bind fun x5 => (f_M_putsAsked_b0 F n x5 l1)))))))
def f_M_putsAsked (F : Nat) (s : St) (p1 : Int32) : Option (St) :=
  f_M_putsAsked_b0 F F s p1
set_option maxHeartbeats 1000000 in
theorem c_f_M_putsAsked_b0 {F : Nat} {Γ : Ga} {D : DD} {B : Nat} {s' : St} (X : Cx Γ RX11 cX11_putsAsked 2 D B { frames := 1, cells := 0, slots := 0, locals := 23 }) (hr : (Gme Γ).sig.returnType = none) : ∀ (n : Nat) {s : St} {l1 : Int32}, f_M_putsAsked_b0 F n s l1 = some s' → V Γ D B true 2 (QM Γ D B true s' none 0 0) 0 0 s 0 [(0, .ref (B + 39)), (1, .int l1)] [] := by
  intro n
  induction n with
  | zero => intro s l1 hf; rw [f_M_putsAsked_b0] at hf; cases hf
  | succ n ih =>
    intro s l1 hf
    rw [f_M_putsAsked_b0] at hf
    refine r_aload_n (x := some 39) (pc := 0) X dX11_putsAsked_0 0 rfl ?_
    refine r_get (j := 21) (pc := 1) X ce_39 rfl inT11 (by decide) w_1101 rfl dX11_putsAsked_1 ?_
    refine b_if_le (tgt := 52) (pc := 4) X dX11_putsAsked_4 (by decide) hf (fun hf => ?_) (fun hf => ?_)
    · exact e_vret (pc := 52) X hr hf (Nat.le_refl _) (Nat.le_refl _) dX11_putsAsked_52
    · refine r_aload_n (x := some 39) (pc := 7) X dX11_putsAsked_7 0 rfl ?_
      refine r_get (j := 20) (pc := 8) X ce_39 rfl inT11 (by decide) w_1100 rfl dX11_putsAsked_8 ?_
      refine r_aload_n (x := some 39) (pc := 11) X dX11_putsAsked_11 0 rfl ?_
      refine r_get (j := 21) (pc := 12) X ce_39 rfl inT11 (by decide) w_1101 rfl dX11_putsAsked_12 ?_
      refine r_iconst (v := 1) (pc := 15) X dX11_putsAsked_15 (by decide) ?_
      refine r_isub (pc := 16) X dX11_putsAsked_16 ?_
      refine b_iald (pc := 17) X ce_48 dX11_putsAsked_17 hf (fun j1 hf => ?_)
      refine bnd hf (fun x2 h2 hf => ?_)
      refine r_callSi (As := [.int (gA s 48 j1)]) (st := []) (pc := 18) X (c_f_M_askRank h2) rfl w_1344 w_1345 w_84 w_1346 hdS_X11_askRank (by decide) (by decide) (by decide) (Nat.le_of_ble_eq_true rfl) dX11_putsAsked_18 rfl ?_
      refine r_iload_n (pc := 21) X dX11_putsAsked_21 1 rfl ?_
      refine b_icmp_lt (tgt := 52) (pc := 22) X dX11_putsAsked_22 (by decide) hf (fun hf => ?_) (fun hf => ?_)
      · exact e_vret (pc := 52) X hr hf (Nat.le_refl _) (Nat.le_refl _) dX11_putsAsked_52
      · refine r_aload_n (x := some 39) (pc := 25) X dX11_putsAsked_25 0 rfl ?_
        refine r_dup (pc := 26) X dX11_putsAsked_26 rfl ?_
        refine r_get (j := 21) (pc := 27) X ce_39 rfl inT11 (by decide) w_1101 rfl dX11_putsAsked_27 ?_
        refine r_iconst (v := 1) (pc := 30) X dX11_putsAsked_30 (by decide) ?_
        refine r_isub (pc := 31) X dX11_putsAsked_31 ?_
        refine b_put (j := 21) (pc := 32) X ce_39 rfl inT11 tyX11 tyX11_ok nmX11 (by decide) w_1101 rfl (tyX11_ok 21 (by decide)) rfl rfl (Nat.le_of_ble_eq_true rfl) (cp_2517 _) rfl rfl dX11_putsAsked_32 hf (fun s3 hf => ?_)
        refine r_aload_n (x := some 39) (pc := 35) X dX11_putsAsked_35 0 rfl ?_
        refine r_aload_n (x := some 39) (pc := 36) X dX11_putsAsked_36 0 rfl ?_
        refine r_get (j := 20) (pc := 37) X ce_39 rfl inT11 (by decide) w_1100 rfl dX11_putsAsked_37 ?_
        refine r_aload_n (x := some 39) (pc := 40) X dX11_putsAsked_40 0 rfl ?_
        refine r_get (j := 21) (pc := 41) X ce_39 rfl inT11 (by decide) w_1101 rfl dX11_putsAsked_41 ?_
        refine b_iald (pc := 44) X ce_48 dX11_putsAsked_44 hf (fun j4 hf => ?_)
        refine r_iconst (v := 0) (pc := 45) X dX11_putsAsked_45 (by decide) ?_
        refine bnd hf (fun x5 h5 hf => ?_)
        refine r_callVv (As := [.int (gA s3 48 j4), .int 0]) (st := []) (pc := 46) X (c_f_M_putsAsk h5) rfl w_1299 w_1301 w_42 w_84 w_1302 hdV_X11_putsAsk (Rc.s rfl ce_39) (by decide) (by decide) (by decide) (Nat.le_of_ble_eq_true rfl) dX11_putsAsked_46 rfl ?_
        refine r_goto (tgt := 0) (pc := 49) X dX11_putsAsked_49 (by decide) ?_
        exact ih hf
set_option maxHeartbeats 1000000 in
theorem c_f_M_putsAsked {F : Nat} {s : St} {p1 : Int32} {s' : St} (hf : f_M_putsAsked F s p1 = some s') : CC true yX11_putsAsked (Cond.code yX11_putsAsked cX11_putsAsked 2 none) 1 23 (fun B => [.ref (B + 39), .int p1]) s (fun B => none) s' 0 0 := by
  refine CC.of (fun B => [(0, .ref (B + 39)), (1, .int p1)]) (by decide +kernel) (fun _ => rfl) (fun _ => (by simp [lg_sl, rfB_cat, catI, catL, catR])) (fun Γ D B X hr hin => ?_)
  have X : Cx Γ RX11 cX11_putsAsked 2 D B { frames := 1, cells := 0, slots := 0, locals := 23 } := X
  unfold f_M_putsAsked at hf
  exact c_f_M_putsAsked_b0 X hr _ hf
/-! f_M_endsAggregate -/
theorem dX11_endsAggregate_0 : decode cX11_endsAggregate 0 = .ok (.aload_n 0, 1) := by decide +kernel
theorem dX11_endsAggregate_1 : decode cX11_endsAggregate 1 = .ok (.getfield 136, 3) := by decide +kernel
theorem dX11_endsAggregate_4 : decode cX11_endsAggregate 4 = .ok (.aload_n 0, 1) := by decide +kernel
theorem dX11_endsAggregate_5 : decode cX11_endsAggregate 5 = .ok (.getfield 139, 3) := by decide +kernel
theorem dX11_endsAggregate_8 : decode cX11_endsAggregate 8 = .ok (.iconst 3, 1) := by decide +kernel
theorem dX11_endsAggregate_9 : decode cX11_endsAggregate 9 = .ok (.ishl, 1) := by decide +kernel
theorem dX11_endsAggregate_10 : decode cX11_endsAggregate 10 = .ok (.ior, 1) := by decide +kernel
theorem dX11_endsAggregate_11 : decode cX11_endsAggregate 11 = .ok (.iload_n 1, 1) := by decide +kernel
theorem dX11_endsAggregate_12 : decode cX11_endsAggregate 12 = .ok (.ifCond .eq 8, 3) := by decide +kernel
theorem dX11_endsAggregate_15 : decode cX11_endsAggregate 15 = .ok (.bipush 64, 2) := by decide +kernel
theorem dX11_endsAggregate_17 : decode cX11_endsAggregate 17 = .ok (.goto 4, 3) := by decide +kernel
theorem dX11_endsAggregate_20 : decode cX11_endsAggregate 20 = .ok (.iconst 0, 1) := by decide +kernel
theorem dX11_endsAggregate_21 : decode cX11_endsAggregate 21 = .ok (.ior, 1) := by decide +kernel
theorem dX11_endsAggregate_22 : decode cX11_endsAggregate 22 = .ok (.aload_n 0, 1) := by decide +kernel
theorem dX11_endsAggregate_23 : decode cX11_endsAggregate 23 = .ok (.getfield 142, 3) := by decide +kernel
theorem dX11_endsAggregate_26 : decode cX11_endsAggregate 26 = .ok (.bipush 7, 2) := by decide +kernel
theorem dX11_endsAggregate_28 : decode cX11_endsAggregate 28 = .ok (.ishl, 1) := by decide +kernel
theorem dX11_endsAggregate_29 : decode cX11_endsAggregate 29 = .ok (.ior, 1) := by decide +kernel
theorem dX11_endsAggregate_30 : decode cX11_endsAggregate 30 = .ok (.aload_n 0, 1) := by decide +kernel
theorem dX11_endsAggregate_31 : decode cX11_endsAggregate 31 = .ok (.getfield 28, 3) := by decide +kernel
theorem dX11_endsAggregate_34 : decode cX11_endsAggregate 34 = .ok (.aload_n 0, 1) := by decide +kernel
theorem dX11_endsAggregate_35 : decode cX11_endsAggregate 35 = .ok (.getfield 106, 3) := by decide +kernel
theorem dX11_endsAggregate_38 : decode cX11_endsAggregate 38 = .ok (.iaload, 1) := by decide +kernel
theorem dX11_endsAggregate_39 : decode cX11_endsAggregate 39 = .ok (.bipush 14, 2) := by decide +kernel
theorem dX11_endsAggregate_41 : decode cX11_endsAggregate 41 = .ok (.ishl, 1) := by decide +kernel
theorem dX11_endsAggregate_42 : decode cX11_endsAggregate 42 = .ok (.ior, 1) := by decide +kernel
theorem dX11_endsAggregate_43 : decode cX11_endsAggregate 43 = .ok (.istore_n 2, 1) := by decide +kernel
theorem dX11_endsAggregate_44 : decode cX11_endsAggregate 44 = .ok (.aload_n 0, 1) := by decide +kernel
theorem dX11_endsAggregate_45 : decode cX11_endsAggregate 45 = .ok (.iconst 3, 1) := by decide +kernel
theorem dX11_endsAggregate_46 : decode cX11_endsAggregate 46 = .ok (.iload_n 2, 1) := by decide +kernel
theorem dX11_endsAggregate_47 : decode cX11_endsAggregate 47 = .ok (.invokevirtual 116, 3) := by decide +kernel
theorem dX11_endsAggregate_50 : decode cX11_endsAggregate 50 = .ok (.aload_n 0, 1) := by decide +kernel
theorem dX11_endsAggregate_51 : decode cX11_endsAggregate 51 = .ok (.invokevirtual 145, 3) := by decide +kernel
theorem dX11_endsAggregate_54 : decode cX11_endsAggregate 54 = .ok (.return_, 1) := by decide +kernel
def f_M_endsAggregate_b21 (F : Nat) (s : St) (t0 : Int32) (t1 : Int32) : Option (St) :=
  (ix 5 (gI s 2504)).bind fun j1 => (lt (((t0 ||| t1) ||| ((gI s 2511) <<< ((7 : Int32) &&& 31))) ||| ((gA s 46 j1) <<< ((14 : Int32) &&& 31)) : Int32) fun x2 => ((f_M_puts F s 3 x2).bind fun x3 => ((f_M_endsUnit F x3).bind fun x4 => (some x4))))
def f_M_endsAggregate (F : Nat) (s : St) (p1 : Int32) : Option (St) :=
  if p1 = 0 then
    (f_M_endsAggregate_b21 F s ((gI s 2509) ||| ((gI s 2510) <<< ((3 : Int32) &&& 31))) 0)
  else
    (f_M_endsAggregate_b21 F s ((gI s 2509) ||| ((gI s 2510) <<< ((3 : Int32) &&& 31))) 64)
set_option maxHeartbeats 1000000 in
theorem c_f_M_endsAggregate_b21 {F : Nat} {Γ : Ga} {D : DD} {B : Nat} {s' : St} (X : Cx Γ RX11 cX11_endsAggregate 3 D B { frames := 2, cells := 0, slots := 0, locals := 43 }) (hr : (Gme Γ).sig.returnType = none) {s : St} {t0 : Int32} {t1 : Int32} (hf : f_M_endsAggregate_b21 F s t0 t1 = some s') : V Γ D B true 3 (QM Γ D B true s' none 0 0) 0 0 s 21 [(0, .ref (B + 39))] [.int t1, .int t0] := by
  unfold f_M_endsAggregate_b21 at hf
  refine r_ior (pc := 21) X dX11_endsAggregate_21 ?_
  refine r_aload_n (x := some 39) (pc := 22) X dX11_endsAggregate_22 0 rfl ?_
  refine r_get (j := 15) (pc := 23) X ce_39 rfl inT11 (by decide) w_1095 rfl dX11_endsAggregate_23 ?_
  refine r_bipush (v := 7) (pc := 26) X dX11_endsAggregate_26 (by decide) ?_
  refine r_ishl (pc := 28) X dX11_endsAggregate_28 ?_
  refine r_ior (pc := 29) X dX11_endsAggregate_29 ?_
  refine r_aload_n (x := some 39) (pc := 30) X dX11_endsAggregate_30 0 rfl ?_
  refine r_get (j := 7) (pc := 31) X ce_39 rfl inT11 (by decide) w_1087 rfl dX11_endsAggregate_31 ?_
  refine r_aload_n (x := some 39) (pc := 34) X dX11_endsAggregate_34 0 rfl ?_
  refine r_get (j := 8) (pc := 35) X ce_39 rfl inT11 (by decide) w_1088 rfl dX11_endsAggregate_35 ?_
  refine b_iald (pc := 38) X ce_46 dX11_endsAggregate_38 hf (fun j1 hf => ?_)
  refine r_bipush (v := 14) (pc := 39) X dX11_endsAggregate_39 (by decide) ?_
  refine r_ishl (pc := 41) X dX11_endsAggregate_41 ?_
  refine r_ior (pc := 42) X dX11_endsAggregate_42 ?_
  refine topi hf (fun x2 hf => ?_)
  refine r_istore_n (pc := 43) (lv' := [(0, .ref (B + 39)), (2, .int x2)]) X dX11_endsAggregate_43 (by decide) [1, 0] rfl ?_
  refine r_aload_n (x := some 39) (pc := 44) X dX11_endsAggregate_44 0 rfl ?_
  refine r_iconst (v := 3) (pc := 45) X dX11_endsAggregate_45 (by decide) ?_
  refine r_iload_n (pc := 46) X dX11_endsAggregate_46 1 rfl ?_
  refine bnd hf (fun x3 h3 hf => ?_)
  refine r_callVv (As := [.int 3, .int x2]) (st := []) (pc := 47) X (c_f_M_puts h3) rfl w_1291 w_1293 w_40 w_84 w_1294 hdV_X11_puts (Rc.s rfl ce_39) (by decide) (by decide) (by decide) (Nat.le_of_ble_eq_true rfl) dX11_endsAggregate_47 rfl ?_
  refine r_aload_n (x := some 39) (pc := 50) X dX11_endsAggregate_50 0 rfl ?_
  refine bnd hf (fun x4 h4 hf => ?_)
  refine r_callVv (As := []) (st := []) (pc := 51) X (c_f_M_endsUnit h4) rfl w_1295 w_1297 w_41 w_84 w_1298 hdV_X11_endsUnit (Rc.s rfl ce_39) (by decide) (by decide) (by decide) (Nat.le_of_ble_eq_true rfl) dX11_endsAggregate_51 rfl ?_
  exact e_vret (pc := 54) X hr hf (Nat.le_refl _) (Nat.le_refl _) dX11_endsAggregate_54
set_option maxHeartbeats 1000000 in
theorem c_f_M_endsAggregate {F : Nat} {s : St} {p1 : Int32} {s' : St} (hf : f_M_endsAggregate F s p1 = some s') : CC true yX11_endsAggregate (Cond.code yX11_endsAggregate cX11_endsAggregate 3 none) 2 43 (fun B => [.ref (B + 39), .int p1]) s (fun B => none) s' 0 0 := by
  refine CC.of (fun B => [(0, .ref (B + 39)), (1, .int p1)]) (by decide +kernel) (fun _ => rfl) (fun _ => (by simp [lg_sl, rfB_cat, catI, catL, catR])) (fun Γ D B X hr hin => ?_)
  have X : Cx Γ RX11 cX11_endsAggregate 3 D B { frames := 2, cells := 0, slots := 0, locals := 43 } := X
  unfold f_M_endsAggregate at hf
  refine r_aload_n (x := some 39) (pc := 0) X dX11_endsAggregate_0 0 rfl ?_
  refine r_get (j := 13) (pc := 1) X ce_39 rfl inT11 (by decide) w_1093 rfl dX11_endsAggregate_1 ?_
  refine r_aload_n (x := some 39) (pc := 4) X dX11_endsAggregate_4 0 rfl ?_
  refine r_get (j := 14) (pc := 5) X ce_39 rfl inT11 (by decide) w_1094 rfl dX11_endsAggregate_5 ?_
  refine r_iconst (v := 3) (pc := 8) X dX11_endsAggregate_8 (by decide) ?_
  refine r_ishl (pc := 9) X dX11_endsAggregate_9 ?_
  refine r_ior (pc := 10) X dX11_endsAggregate_10 ?_
  refine r_iload_n (pc := 11) X dX11_endsAggregate_11 1 rfl ?_
  refine b_if_eq (tgt := 20) (pc := 12) X dX11_endsAggregate_12 (by decide) hf (fun hf => ?_) (fun hf => ?_)
  · refine r_iconst (v := 0) (pc := 20) X dX11_endsAggregate_20 (by decide) ?_
    refine r_forget (lv' := [(0, .ref (B + 39))]) [0] rfl ?_
    exact c_f_M_endsAggregate_b21 X hr hf
  · refine r_bipush (v := 64) (pc := 15) X dX11_endsAggregate_15 (by decide) ?_
    refine r_goto (tgt := 21) (pc := 17) X dX11_endsAggregate_17 (by decide) ?_
    refine r_forget (lv' := [(0, .ref (B + 39))]) [0] rfl ?_
    exact c_f_M_endsAggregate_b21 X hr hf
/-! f_M_goesToUnit -/
theorem dX11_goesToUnit_0 : decode cX11_goesToUnit 0 = .ok (.iload_n 1, 1) := by decide +kernel
theorem dX11_goesToUnit_1 : decode cX11_goesToUnit 1 = .ok (.invokestatic 148, 3) := by decide +kernel
theorem dX11_goesToUnit_4 : decode cX11_goesToUnit 4 = .ok (.ifCond .eq 24, 3) := by decide +kernel
theorem dX11_goesToUnit_7 : decode cX11_goesToUnit 7 = .ok (.aload_n 0, 1) := by decide +kernel
theorem dX11_goesToUnit_8 : decode cX11_goesToUnit 8 = .ok (.iload_n 1, 1) := by decide +kernel
theorem dX11_goesToUnit_9 : decode cX11_goesToUnit 9 = .ok (.bipush 48, 2) := by decide +kernel
theorem dX11_goesToUnit_11 : decode cX11_goesToUnit 11 = .ok (.isub, 1) := by decide +kernel
theorem dX11_goesToUnit_12 : decode cX11_goesToUnit 12 = .ok (.putfield 152, 3) := by decide +kernel
theorem dX11_goesToUnit_15 : decode cX11_goesToUnit 15 = .ok (.aload_n 0, 1) := by decide +kernel
theorem dX11_goesToUnit_16 : decode cX11_goesToUnit 16 = .ok (.iconst 1, 1) := by decide +kernel
theorem dX11_goesToUnit_17 : decode cX11_goesToUnit 17 = .ok (.putfield 155, 3) := by decide +kernel
theorem dX11_goesToUnit_20 : decode cX11_goesToUnit 20 = .ok (.aload_n 0, 1) := by decide +kernel
theorem dX11_goesToUnit_21 : decode cX11_goesToUnit 21 = .ok (.iconst 1, 1) := by decide +kernel
theorem dX11_goesToUnit_22 : decode cX11_goesToUnit 22 = .ok (.putfield 120, 3) := by decide +kernel
theorem dX11_goesToUnit_25 : decode cX11_goesToUnit 25 = .ok (.goto 129, 3) := by decide +kernel
theorem dX11_goesToUnit_28 : decode cX11_goesToUnit 28 = .ok (.iload_n 1, 1) := by decide +kernel
theorem dX11_goesToUnit_29 : decode cX11_goesToUnit 29 = .ok (.bipush 45, 2) := by decide +kernel
theorem dX11_goesToUnit_31 : decode cX11_goesToUnit 31 = .ok (.if_icmp .ne 26, 3) := by decide +kernel
theorem dX11_goesToUnit_34 : decode cX11_goesToUnit 34 = .ok (.aload_n 0, 1) := by decide +kernel
theorem dX11_goesToUnit_35 : decode cX11_goesToUnit 35 = .ok (.getfield 31, 3) := by decide +kernel
theorem dX11_goesToUnit_38 : decode cX11_goesToUnit 38 = .ok (.aload_n 0, 1) := by decide +kernel
theorem dX11_goesToUnit_39 : decode cX11_goesToUnit 39 = .ok (.getfield 113, 3) := by decide +kernel
theorem dX11_goesToUnit_42 : decode cX11_goesToUnit 42 = .ok (.iconst 2, 1) := by decide +kernel
theorem dX11_goesToUnit_43 : decode cX11_goesToUnit 43 = .ok (.iastore, 1) := by decide +kernel
theorem dX11_goesToUnit_44 : decode cX11_goesToUnit 44 = .ok (.aload_n 0, 1) := by decide +kernel
theorem dX11_goesToUnit_45 : decode cX11_goesToUnit 45 = .ok (.dup, 1) := by decide +kernel
theorem dX11_goesToUnit_46 : decode cX11_goesToUnit 46 = .ok (.getfield 113, 3) := by decide +kernel
theorem dX11_goesToUnit_49 : decode cX11_goesToUnit 49 = .ok (.iconst 1, 1) := by decide +kernel
theorem dX11_goesToUnit_50 : decode cX11_goesToUnit 50 = .ok (.iadd, 1) := by decide +kernel
theorem dX11_goesToUnit_51 : decode cX11_goesToUnit 51 = .ok (.putfield 113, 3) := by decide +kernel
theorem dX11_goesToUnit_54 : decode cX11_goesToUnit 54 = .ok (.goto 100, 3) := by decide +kernel
theorem dX11_goesToUnit_57 : decode cX11_goesToUnit 57 = .ok (.iload_n 1, 1) := by decide +kernel
theorem dX11_goesToUnit_58 : decode cX11_goesToUnit 58 = .ok (.bipush 40, 2) := by decide +kernel
theorem dX11_goesToUnit_60 : decode cX11_goesToUnit 60 = .ok (.if_icmp .ne 47, 3) := by decide +kernel
theorem dX11_goesToUnit_63 : decode cX11_goesToUnit 63 = .ok (.aload_n 0, 1) := by decide +kernel
theorem dX11_goesToUnit_64 : decode cX11_goesToUnit 64 = .ok (.getfield 31, 3) := by decide +kernel
theorem dX11_goesToUnit_67 : decode cX11_goesToUnit 67 = .ok (.aload_n 0, 1) := by decide +kernel
theorem dX11_goesToUnit_68 : decode cX11_goesToUnit 68 = .ok (.getfield 113, 3) := by decide +kernel
theorem dX11_goesToUnit_71 : decode cX11_goesToUnit 71 = .ok (.bipush 40, 2) := by decide +kernel
theorem dX11_goesToUnit_73 : decode cX11_goesToUnit 73 = .ok (.iastore, 1) := by decide +kernel
theorem dX11_goesToUnit_74 : decode cX11_goesToUnit 74 = .ok (.aload_n 0, 1) := by decide +kernel
theorem dX11_goesToUnit_75 : decode cX11_goesToUnit 75 = .ok (.dup, 1) := by decide +kernel
theorem dX11_goesToUnit_76 : decode cX11_goesToUnit 76 = .ok (.getfield 113, 3) := by decide +kernel
theorem dX11_goesToUnit_79 : decode cX11_goesToUnit 79 = .ok (.iconst 1, 1) := by decide +kernel
theorem dX11_goesToUnit_80 : decode cX11_goesToUnit 80 = .ok (.iadd, 1) := by decide +kernel
theorem dX11_goesToUnit_81 : decode cX11_goesToUnit 81 = .ok (.putfield 113, 3) := by decide +kernel
theorem dX11_goesToUnit_84 : decode cX11_goesToUnit 84 = .ok (.aload_n 0, 1) := by decide +kernel
theorem dX11_goesToUnit_85 : decode cX11_goesToUnit 85 = .ok (.dup, 1) := by decide +kernel
theorem dX11_goesToUnit_86 : decode cX11_goesToUnit 86 = .ok (.getfield 158, 3) := by decide +kernel
theorem dX11_goesToUnit_89 : decode cX11_goesToUnit 89 = .ok (.iconst 1, 1) := by decide +kernel
theorem dX11_goesToUnit_90 : decode cX11_goesToUnit 90 = .ok (.iadd, 1) := by decide +kernel
theorem dX11_goesToUnit_91 : decode cX11_goesToUnit 91 = .ok (.putfield 158, 3) := by decide +kernel
theorem dX11_goesToUnit_94 : decode cX11_goesToUnit 94 = .ok (.aload_n 0, 1) := by decide +kernel
theorem dX11_goesToUnit_95 : decode cX11_goesToUnit 95 = .ok (.getfield 37, 3) := by decide +kernel
theorem dX11_goesToUnit_98 : decode cX11_goesToUnit 98 = .ok (.aload_n 0, 1) := by decide +kernel
theorem dX11_goesToUnit_99 : decode cX11_goesToUnit 99 = .ok (.getfield 158, 3) := by decide +kernel
theorem dX11_goesToUnit_102 : decode cX11_goesToUnit 102 = .ok (.iconst 0, 1) := by decide +kernel
theorem dX11_goesToUnit_103 : decode cX11_goesToUnit 103 = .ok (.bastore, 1) := by decide +kernel
theorem dX11_goesToUnit_104 : decode cX11_goesToUnit 104 = .ok (.goto 50, 3) := by decide +kernel
theorem dX11_goesToUnit_107 : decode cX11_goesToUnit 107 = .ok (.aload_n 0, 1) := by decide +kernel
theorem dX11_goesToUnit_108 : decode cX11_goesToUnit 108 = .ok (.iload_n 1, 1) := by decide +kernel
theorem dX11_goesToUnit_109 : decode cX11_goesToUnit 109 = .ok (.invokestatic 161, 3) := by decide +kernel
theorem dX11_goesToUnit_112 : decode cX11_goesToUnit 112 = .ok (.putfield 136, 3) := by decide +kernel
theorem dX11_goesToUnit_115 : decode cX11_goesToUnit 115 = .ok (.aload_n 0, 1) := by decide +kernel
theorem dX11_goesToUnit_116 : decode cX11_goesToUnit 116 = .ok (.iconst 0, 1) := by decide +kernel
theorem dX11_goesToUnit_117 : decode cX11_goesToUnit 117 = .ok (.putfield 139, 3) := by decide +kernel
theorem dX11_goesToUnit_120 : decode cX11_goesToUnit 120 = .ok (.aload_n 0, 1) := by decide +kernel
theorem dX11_goesToUnit_121 : decode cX11_goesToUnit 121 = .ok (.aload_n 0, 1) := by decide +kernel
theorem dX11_goesToUnit_122 : decode cX11_goesToUnit 122 = .ok (.getfield 136, 3) := by decide +kernel
theorem dX11_goesToUnit_125 : decode cX11_goesToUnit 125 = .ok (.iconst (-1), 1) := by decide +kernel
theorem dX11_goesToUnit_126 : decode cX11_goesToUnit 126 = .ok (.if_icmp .ne 10, 3) := by decide +kernel
theorem dX11_goesToUnit_129 : decode cX11_goesToUnit 129 = .ok (.aload_n 0, 1) := by decide +kernel
theorem dX11_goesToUnit_130 : decode cX11_goesToUnit 130 = .ok (.getfield 120, 3) := by decide +kernel
theorem dX11_goesToUnit_133 : decode cX11_goesToUnit 133 = .ok (.goto 4, 3) := by decide +kernel
theorem dX11_goesToUnit_136 : decode cX11_goesToUnit 136 = .ok (.iconst 3, 1) := by decide +kernel
theorem dX11_goesToUnit_137 : decode cX11_goesToUnit 137 = .ok (.putfield 120, 3) := by decide +kernel
theorem dX11_goesToUnit_140 : decode cX11_goesToUnit 140 = .ok (.aload_n 0, 1) := by decide +kernel
theorem dX11_goesToUnit_141 : decode cX11_goesToUnit 141 = .ok (.getfield 136, 3) := by decide +kernel
theorem dX11_goesToUnit_144 : decode cX11_goesToUnit 144 = .ok (.iconst (-1), 1) := by decide +kernel
theorem dX11_goesToUnit_145 : decode cX11_goesToUnit 145 = .ok (.if_icmp .eq 7, 3) := by decide +kernel
theorem dX11_goesToUnit_148 : decode cX11_goesToUnit 148 = .ok (.iconst 1, 1) := by decide +kernel
theorem dX11_goesToUnit_149 : decode cX11_goesToUnit 149 = .ok (.goto 4, 3) := by decide +kernel
theorem dX11_goesToUnit_152 : decode cX11_goesToUnit 152 = .ok (.iconst 0, 1) := by decide +kernel
theorem dX11_goesToUnit_153 : decode cX11_goesToUnit 153 = .ok (.ireturn, 1) := by decide +kernel
theorem dX11_goesToUnit_154 : decode cX11_goesToUnit 154 = .ok (.iconst 1, 1) := by decide +kernel
theorem dX11_goesToUnit_155 : decode cX11_goesToUnit 155 = .ok (.ireturn, 1) := by decide +kernel
def f_M_goesToUnit (F : Nat) (s : St) (p1 : Int32) : Option (Int32 × St) :=
  (f_M_isFigure F s p1).bind fun x1 => (if x1.1 = 0 then
    (if p1 = 45 then
      ((ix 64 (gI x1.2 2515)).bind fun j2 => (lt (sA x1.2 47 j2 2) fun s3 => (lt (sI s3 2515 ((gI s3 2515) + 1)) fun s4 => (some (1, s4)))))
    else
      (if p1 = 40 then
        ((ix 64 (gI x1.2 2515)).bind fun j5 => (lt (sA x1.2 47 j5 40) fun s6 => (lt (sI s6 2515 ((gI s6 2515) + 1)) fun s7 => (lt (sI s7 2518 ((gI s7 2518) + 1)) fun s8 => ((ix 64 (gI s8 2518)).bind fun j9 => (lt (sA s8 49 j9 0) fun s10 => (some (1, s10))))))))
      else
        ((f_M_kindOf F x1.2 p1).bind fun x11 => (lt (sI x11.2 2509 x11.1) fun s12 => (lt (sI s12 2510 0) fun s13 => (if (gI s13 2509) = (-1) then
          (lt (sI s13 2505 (gI s13 2505)) fun s14 => (if (gI s14 2509) = (-1) then
            (some (0, s14))
          else
            (some (1, s14))))
        else
          (lt (sI s13 2505 3) fun s15 => (if (gI s15 2509) = (-1) then
            (some (0, s15))
          else
            (some (1, s15))))))))))
  else
    (lt (sI x1.2 2507 (p1 - 48)) fun s16 => (lt (sI s16 2506 1) fun s17 => (lt (sI s17 2505 1) fun s18 => (some (1, s18))))))
set_option maxHeartbeats 1000000 in
theorem c_f_M_goesToUnit {F : Nat} {s : St} {p1 : Int32} {r : Int32} {s' : St} (hf : f_M_goesToUnit F s p1 = some (r, s')) : CC true yX11_goesToUnit (Cond.code yX11_goesToUnit cX11_goesToUnit 2 (some .boolean)) 2 42 (fun B => [.ref (B + 39), .int p1]) s (fun B => (some (.int r))) s' 0 0 := by
  refine CC.of (fun B => [(0, .ref (B + 39)), (1, .int p1)]) (by decide +kernel) (fun _ => rfl) (fun _ => (by simp [lg_sl, rfB_cat, catI, catL, catR])) (fun Γ D B X hr hin => ?_)
  have X : Cx Γ RX11 cX11_goesToUnit 2 D B { frames := 2, cells := 0, slots := 0, locals := 42 } := X
  unfold f_M_goesToUnit at hf
  refine r_iload_n (pc := 0) X dX11_goesToUnit_0 1 rfl ?_
  refine bnd hf (fun x1 h1 hf => ?_)
  refine r_callSi (As := [.int p1]) (st := []) (pc := 1) X (c_f_M_isFigure h1) rfl w_1284 w_1285 w_84 w_1286 hdS_X11_isFigure (by decide) (by decide) (by decide) (Nat.le_of_ble_eq_true rfl) dX11_goesToUnit_1 rfl ?_
  refine b_if_eq (tgt := 28) (pc := 4) X dX11_goesToUnit_4 (by decide) hf (fun hf => ?_) (fun hf => ?_)
  · refine r_iload_n (pc := 28) X dX11_goesToUnit_28 1 rfl ?_
    refine r_bipush (v := 45) (pc := 29) X dX11_goesToUnit_29 (by decide) ?_
    refine b_icmp_ne (tgt := 57) (pc := 31) X dX11_goesToUnit_31 (by decide) hf (fun hf => ?_) (fun hf => ?_)
    · refine r_aload_n (x := some 39) (pc := 34) X dX11_goesToUnit_34 0 rfl ?_
      refine r_get (j := 18) (pc := 35) X ce_39 rfl inT11 (by decide) w_1098 rfl dX11_goesToUnit_35 ?_
      refine r_aload_n (x := some 39) (pc := 38) X dX11_goesToUnit_38 0 rfl ?_
      refine r_get (j := 19) (pc := 39) X ce_39 rfl inT11 (by decide) w_1099 rfl dX11_goesToUnit_39 ?_
      refine r_iconst (v := 2) (pc := 42) X dX11_goesToUnit_42 (by decide) ?_
      refine b_iast (pc := 43) X ce_47 (fun _ => ca_47 _ _) dX11_goesToUnit_43 hf (fun j2 s3 hf => ?_)
      refine r_aload_n (x := some 39) (pc := 44) X dX11_goesToUnit_44 0 rfl ?_
      refine r_dup (pc := 45) X dX11_goesToUnit_45 rfl ?_
      refine r_get (j := 19) (pc := 46) X ce_39 rfl inT11 (by decide) w_1099 rfl dX11_goesToUnit_46 ?_
      refine r_iconst (v := 1) (pc := 49) X dX11_goesToUnit_49 (by decide) ?_
      refine r_iadd (pc := 50) X dX11_goesToUnit_50 ?_
      refine b_put (j := 19) (pc := 51) X ce_39 rfl inT11 tyX11 tyX11_ok nmX11 (by decide) w_1099 rfl (tyX11_ok 19 (by decide)) rfl rfl (Nat.le_of_ble_eq_true rfl) (cp_2515 _) rfl rfl dX11_goesToUnit_51 hf (fun s4 hf => ?_)
      refine r_goto (tgt := 154) (pc := 54) X dX11_goesToUnit_54 (by decide) ?_
      refine r_iconst (v := 1) (pc := 154) X dX11_goesToUnit_154 (by decide) ?_
      exact e_zret (pc := 155) X hr (by decide) hf (Nat.le_refl _) (Nat.le_refl _) dX11_goesToUnit_155
    · refine r_iload_n (pc := 57) X dX11_goesToUnit_57 1 rfl ?_
      refine r_bipush (v := 40) (pc := 58) X dX11_goesToUnit_58 (by decide) ?_
      refine b_icmp_ne (tgt := 107) (pc := 60) X dX11_goesToUnit_60 (by decide) hf (fun hf => ?_) (fun hf => ?_)
      · refine r_aload_n (x := some 39) (pc := 63) X dX11_goesToUnit_63 0 rfl ?_
        refine r_get (j := 18) (pc := 64) X ce_39 rfl inT11 (by decide) w_1098 rfl dX11_goesToUnit_64 ?_
        refine r_aload_n (x := some 39) (pc := 67) X dX11_goesToUnit_67 0 rfl ?_
        refine r_get (j := 19) (pc := 68) X ce_39 rfl inT11 (by decide) w_1099 rfl dX11_goesToUnit_68 ?_
        refine r_bipush (v := 40) (pc := 71) X dX11_goesToUnit_71 (by decide) ?_
        refine b_iast (pc := 73) X ce_47 (fun _ => ca_47 _ _) dX11_goesToUnit_73 hf (fun j5 s6 hf => ?_)
        refine r_aload_n (x := some 39) (pc := 74) X dX11_goesToUnit_74 0 rfl ?_
        refine r_dup (pc := 75) X dX11_goesToUnit_75 rfl ?_
        refine r_get (j := 19) (pc := 76) X ce_39 rfl inT11 (by decide) w_1099 rfl dX11_goesToUnit_76 ?_
        refine r_iconst (v := 1) (pc := 79) X dX11_goesToUnit_79 (by decide) ?_
        refine r_iadd (pc := 80) X dX11_goesToUnit_80 ?_
        refine b_put (j := 19) (pc := 81) X ce_39 rfl inT11 tyX11 tyX11_ok nmX11 (by decide) w_1099 rfl (tyX11_ok 19 (by decide)) rfl rfl (Nat.le_of_ble_eq_true rfl) (cp_2515 _) rfl rfl dX11_goesToUnit_81 hf (fun s7 hf => ?_)
        refine r_aload_n (x := some 39) (pc := 84) X dX11_goesToUnit_84 0 rfl ?_
        refine r_dup (pc := 85) X dX11_goesToUnit_85 rfl ?_
        refine r_get (j := 22) (pc := 86) X ce_39 rfl inT11 (by decide) w_1102 rfl dX11_goesToUnit_86 ?_
        refine r_iconst (v := 1) (pc := 89) X dX11_goesToUnit_89 (by decide) ?_
        refine r_iadd (pc := 90) X dX11_goesToUnit_90 ?_
        refine b_put (j := 22) (pc := 91) X ce_39 rfl inT11 tyX11 tyX11_ok nmX11 (by decide) w_1102 rfl (tyX11_ok 22 (by decide)) rfl rfl (Nat.le_of_ble_eq_true rfl) (cp_2518 _) rfl rfl dX11_goesToUnit_91 hf (fun s8 hf => ?_)
        refine r_aload_n (x := some 39) (pc := 94) X dX11_goesToUnit_94 0 rfl ?_
        refine r_get (j := 24) (pc := 95) X ce_39 rfl inT11 (by decide) w_1104 rfl dX11_goesToUnit_95 ?_
        refine r_aload_n (x := some 39) (pc := 98) X dX11_goesToUnit_98 0 rfl ?_
        refine r_get (j := 22) (pc := 99) X ce_39 rfl inT11 (by decide) w_1102 rfl dX11_goesToUnit_99 ?_
        refine r_iconst (v := 0) (pc := 102) X dX11_goesToUnit_102 (by decide) ?_
        refine b_zast (pc := 103) X ce_49 (fun _ => ca_49 _ _) dX11_goesToUnit_103 hf (by decide) (fun j9 s10 hf => ?_)
        refine r_goto (tgt := 154) (pc := 104) X dX11_goesToUnit_104 (by decide) ?_
        refine r_iconst (v := 1) (pc := 154) X dX11_goesToUnit_154 (by decide) ?_
        exact e_zret (pc := 155) X hr (by decide) hf (Nat.le_refl _) (Nat.le_refl _) dX11_goesToUnit_155
      · refine r_aload_n (x := some 39) (pc := 107) X dX11_goesToUnit_107 0 rfl ?_
        refine r_iload_n (pc := 108) X dX11_goesToUnit_108 1 rfl ?_
        refine bnd hf (fun x11 h11 hf => ?_)
        refine r_callSi (As := [.int p1]) (st := [.ref (B + 39)]) (pc := 109) X (c_f_M_kindOf h11) rfl w_1311 w_1312 w_84 w_1313 hdS_X11_kindOf (by decide) (by decide) (by decide) (Nat.le_of_ble_eq_true rfl) dX11_goesToUnit_109 rfl ?_
        refine b_put (j := 13) (pc := 112) X ce_39 rfl inT11 tyX11 tyX11_ok nmX11 (by decide) w_1093 rfl (tyX11_ok 13 (by decide)) rfl rfl (Nat.le_of_ble_eq_true rfl) (cp_2509 _) rfl rfl dX11_goesToUnit_112 hf (fun s12 hf => ?_)
        refine r_aload_n (x := some 39) (pc := 115) X dX11_goesToUnit_115 0 rfl ?_
        refine r_iconst (v := 0) (pc := 116) X dX11_goesToUnit_116 (by decide) ?_
        refine b_put (j := 14) (pc := 117) X ce_39 rfl inT11 tyX11 tyX11_ok nmX11 (by decide) w_1094 rfl (tyX11_ok 14 (by decide)) rfl rfl (Nat.le_of_ble_eq_true rfl) (cp_2510 _) rfl rfl dX11_goesToUnit_117 hf (fun s13 hf => ?_)
        refine r_aload_n (x := some 39) (pc := 120) X dX11_goesToUnit_120 0 rfl ?_
        refine r_aload_n (x := some 39) (pc := 121) X dX11_goesToUnit_121 0 rfl ?_
        refine r_get (j := 13) (pc := 122) X ce_39 rfl inT11 (by decide) w_1093 rfl dX11_goesToUnit_122 ?_
        refine r_iconst (v := -1) (pc := 125) X dX11_goesToUnit_125 (by decide) ?_
        refine b_icmp_ne (tgt := 136) (pc := 126) X dX11_goesToUnit_126 (by decide) hf (fun hf => ?_) (fun hf => ?_)
        · refine r_aload_n (x := some 39) (pc := 129) X dX11_goesToUnit_129 0 rfl ?_
          refine r_get (j := 9) (pc := 130) X ce_39 rfl inT11 (by decide) w_1089 rfl dX11_goesToUnit_130 ?_
          refine r_goto (tgt := 137) (pc := 133) X dX11_goesToUnit_133 (by decide) ?_
          refine b_put (j := 9) (pc := 137) X ce_39 rfl inT11 tyX11 tyX11_ok nmX11 (by decide) w_1089 rfl (tyX11_ok 9 (by decide)) rfl rfl (Nat.le_of_ble_eq_true rfl) (cp_2505 _) rfl rfl dX11_goesToUnit_137 hf (fun s14 hf => ?_)
          refine r_aload_n (x := some 39) (pc := 140) X dX11_goesToUnit_140 0 rfl ?_
          refine r_get (j := 13) (pc := 141) X ce_39 rfl inT11 (by decide) w_1093 rfl dX11_goesToUnit_141 ?_
          refine r_iconst (v := -1) (pc := 144) X dX11_goesToUnit_144 (by decide) ?_
          refine b_icmp_eq (tgt := 152) (pc := 145) X dX11_goesToUnit_145 (by decide) hf (fun hf => ?_) (fun hf => ?_)
          · refine r_iconst (v := 0) (pc := 152) X dX11_goesToUnit_152 (by decide) ?_
            exact e_zret (pc := 153) X hr (by decide) hf (Nat.le_refl _) (Nat.le_refl _) dX11_goesToUnit_153
          · refine r_iconst (v := 1) (pc := 148) X dX11_goesToUnit_148 (by decide) ?_
            refine r_goto (tgt := 153) (pc := 149) X dX11_goesToUnit_149 (by decide) ?_
            exact e_zret (pc := 153) X hr (by decide) hf (Nat.le_refl _) (Nat.le_refl _) dX11_goesToUnit_153
        · refine r_iconst (v := 3) (pc := 136) X dX11_goesToUnit_136 (by decide) ?_
          refine b_put (j := 9) (pc := 137) X ce_39 rfl inT11 tyX11 tyX11_ok nmX11 (by decide) w_1089 rfl (tyX11_ok 9 (by decide)) rfl rfl (Nat.le_of_ble_eq_true rfl) (cp_2505 _) rfl rfl dX11_goesToUnit_137 hf (fun s15 hf => ?_)
          refine r_aload_n (x := some 39) (pc := 140) X dX11_goesToUnit_140 0 rfl ?_
          refine r_get (j := 13) (pc := 141) X ce_39 rfl inT11 (by decide) w_1093 rfl dX11_goesToUnit_141 ?_
          refine r_iconst (v := -1) (pc := 144) X dX11_goesToUnit_144 (by decide) ?_
          refine b_icmp_eq (tgt := 152) (pc := 145) X dX11_goesToUnit_145 (by decide) hf (fun hf => ?_) (fun hf => ?_)
          · refine r_iconst (v := 0) (pc := 152) X dX11_goesToUnit_152 (by decide) ?_
            exact e_zret (pc := 153) X hr (by decide) hf (Nat.le_refl _) (Nat.le_refl _) dX11_goesToUnit_153
          · refine r_iconst (v := 1) (pc := 148) X dX11_goesToUnit_148 (by decide) ?_
            refine r_goto (tgt := 153) (pc := 149) X dX11_goesToUnit_149 (by decide) ?_
            exact e_zret (pc := 153) X hr (by decide) hf (Nat.le_refl _) (Nat.le_refl _) dX11_goesToUnit_153
  · refine r_aload_n (x := some 39) (pc := 7) X dX11_goesToUnit_7 0 rfl ?_
    refine r_iload_n (pc := 8) X dX11_goesToUnit_8 1 rfl ?_
    refine r_bipush (v := 48) (pc := 9) X dX11_goesToUnit_9 (by decide) ?_
    refine r_isub (pc := 11) X dX11_goesToUnit_11 ?_
    refine b_put (j := 11) (pc := 12) X ce_39 rfl inT11 tyX11 tyX11_ok nmX11 (by decide) w_1091 rfl (tyX11_ok 11 (by decide)) rfl rfl (Nat.le_of_ble_eq_true rfl) (cp_2507 _) rfl rfl dX11_goesToUnit_12 hf (fun s16 hf => ?_)
    refine r_aload_n (x := some 39) (pc := 15) X dX11_goesToUnit_15 0 rfl ?_
    refine r_iconst (v := 1) (pc := 16) X dX11_goesToUnit_16 (by decide) ?_
    refine b_put (j := 10) (pc := 17) X ce_39 rfl inT11 tyX11 tyX11_ok nmX11 (by decide) w_1090 rfl (tyX11_ok 10 (by decide)) rfl rfl (Nat.le_of_ble_eq_true rfl) (cp_2506 _) rfl rfl dX11_goesToUnit_17 hf (fun s17 hf => ?_)
    refine r_aload_n (x := some 39) (pc := 20) X dX11_goesToUnit_20 0 rfl ?_
    refine r_iconst (v := 1) (pc := 21) X dX11_goesToUnit_21 (by decide) ?_
    refine b_put (j := 9) (pc := 22) X ce_39 rfl inT11 tyX11 tyX11_ok nmX11 (by decide) w_1089 rfl (tyX11_ok 9 (by decide)) rfl rfl (Nat.le_of_ble_eq_true rfl) (cp_2505 _) rfl rfl dX11_goesToUnit_22 hf (fun s18 hf => ?_)
    refine r_goto (tgt := 154) (pc := 25) X dX11_goesToUnit_25 (by decide) ?_
    refine r_iconst (v := 1) (pc := 154) X dX11_goesToUnit_154 (by decide) ?_
    exact e_zret (pc := 155) X hr (by decide) hf (Nat.le_refl _) (Nat.le_refl _) dX11_goesToUnit_155
/-! f_M_goesBehind -/
theorem dX11_goesBehind_0 : decode cX11_goesBehind 0 = .ok (.iload_n 1, 1) := by decide +kernel
theorem dX11_goesBehind_1 : decode cX11_goesBehind 1 = .ok (.invokestatic 123, 3) := by decide +kernel
theorem dX11_goesBehind_4 : decode cX11_goesBehind 4 = .ok (.istore_n 2, 1) := by decide +kernel
theorem dX11_goesBehind_5 : decode cX11_goesBehind 5 = .ok (.iload_n 2, 1) := by decide +kernel
theorem dX11_goesBehind_6 : decode cX11_goesBehind 6 = .ok (.iconst 1, 1) := by decide +kernel
theorem dX11_goesBehind_7 : decode cX11_goesBehind 7 = .ok (.if_icmp .ne 15, 3) := by decide +kernel
theorem dX11_goesBehind_10 : decode cX11_goesBehind 10 = .ok (.aload_n 0, 1) := by decide +kernel
theorem dX11_goesBehind_11 : decode cX11_goesBehind 11 = .ok (.getfield 37, 3) := by decide +kernel
theorem dX11_goesBehind_14 : decode cX11_goesBehind 14 = .ok (.aload_n 0, 1) := by decide +kernel
theorem dX11_goesBehind_15 : decode cX11_goesBehind 15 = .ok (.getfield 158, 3) := by decide +kernel
theorem dX11_goesBehind_18 : decode cX11_goesBehind 18 = .ok (.baload, 1) := by decide +kernel
theorem dX11_goesBehind_19 : decode cX11_goesBehind 19 = .ok (.ifCond .ne 20, 3) := by decide +kernel
theorem dX11_goesBehind_22 : decode cX11_goesBehind 22 = .ok (.iload_n 2, 1) := by decide +kernel
theorem dX11_goesBehind_23 : decode cX11_goesBehind 23 = .ok (.ifCond .ne 18, 3) := by decide +kernel
theorem dX11_goesBehind_26 : decode cX11_goesBehind 26 = .ok (.iload_n 1, 1) := by decide +kernel
theorem dX11_goesBehind_27 : decode cX11_goesBehind 27 = .ok (.bipush 41, 2) := by decide +kernel
theorem dX11_goesBehind_29 : decode cX11_goesBehind 29 = .ok (.if_icmp .ne 10, 3) := by decide +kernel
theorem dX11_goesBehind_32 : decode cX11_goesBehind 32 = .ok (.aload_n 0, 1) := by decide +kernel
theorem dX11_goesBehind_33 : decode cX11_goesBehind 33 = .ok (.getfield 158, 3) := by decide +kernel
theorem dX11_goesBehind_36 : decode cX11_goesBehind 36 = .ok (.ifCond .ne 5, 3) := by decide +kernel
theorem dX11_goesBehind_39 : decode cX11_goesBehind 39 = .ok (.iconst 0, 1) := by decide +kernel
theorem dX11_goesBehind_40 : decode cX11_goesBehind 40 = .ok (.ireturn, 1) := by decide +kernel
theorem dX11_goesBehind_41 : decode cX11_goesBehind 41 = .ok (.iload_n 2, 1) := by decide +kernel
theorem dX11_goesBehind_42 : decode cX11_goesBehind 42 = .ok (.ifCond .le 75, 3) := by decide +kernel
theorem dX11_goesBehind_45 : decode cX11_goesBehind 45 = .ok (.aload_n 0, 1) := by decide +kernel
theorem dX11_goesBehind_46 : decode cX11_goesBehind 46 = .ok (.iload_n 2, 1) := by decide +kernel
theorem dX11_goesBehind_47 : decode cX11_goesBehind 47 = .ok (.iconst 1, 1) := by decide +kernel
theorem dX11_goesBehind_48 : decode cX11_goesBehind 48 = .ok (.if_icmp .ne 7, 3) := by decide +kernel
theorem dX11_goesBehind_51 : decode cX11_goesBehind 51 = .ok (.iconst 2, 1) := by decide +kernel
theorem dX11_goesBehind_52 : decode cX11_goesBehind 52 = .ok (.goto 4, 3) := by decide +kernel
theorem dX11_goesBehind_55 : decode cX11_goesBehind 55 = .ok (.iload_n 2, 1) := by decide +kernel
theorem dX11_goesBehind_56 : decode cX11_goesBehind 56 = .ok (.invokevirtual 164, 3) := by decide +kernel
theorem dX11_goesBehind_59 : decode cX11_goesBehind 59 = .ok (.aload_n 0, 1) := by decide +kernel
theorem dX11_goesBehind_60 : decode cX11_goesBehind 60 = .ok (.getfield 37, 3) := by decide +kernel
theorem dX11_goesBehind_63 : decode cX11_goesBehind 63 = .ok (.aload_n 0, 1) := by decide +kernel
theorem dX11_goesBehind_64 : decode cX11_goesBehind 64 = .ok (.getfield 158, 3) := by decide +kernel
theorem dX11_goesBehind_67 : decode cX11_goesBehind 67 = .ok (.aload_n 0, 1) := by decide +kernel
theorem dX11_goesBehind_68 : decode cX11_goesBehind 68 = .ok (.getfield 37, 3) := by decide +kernel
theorem dX11_goesBehind_71 : decode cX11_goesBehind 71 = .ok (.aload_n 0, 1) := by decide +kernel
theorem dX11_goesBehind_72 : decode cX11_goesBehind 72 = .ok (.getfield 158, 3) := by decide +kernel
theorem dX11_goesBehind_75 : decode cX11_goesBehind 75 = .ok (.baload, 1) := by decide +kernel
theorem dX11_goesBehind_76 : decode cX11_goesBehind 76 = .ok (.ifCond .ne 8, 3) := by decide +kernel
theorem dX11_goesBehind_79 : decode cX11_goesBehind 79 = .ok (.iload_n 2, 1) := by decide +kernel
theorem dX11_goesBehind_80 : decode cX11_goesBehind 80 = .ok (.iconst 1, 1) := by decide +kernel
theorem dX11_goesBehind_81 : decode cX11_goesBehind 81 = .ok (.if_icmp .ne 7, 3) := by decide +kernel
theorem dX11_goesBehind_84 : decode cX11_goesBehind 84 = .ok (.iconst 1, 1) := by decide +kernel
theorem dX11_goesBehind_85 : decode cX11_goesBehind 85 = .ok (.goto 4, 3) := by decide +kernel
theorem dX11_goesBehind_88 : decode cX11_goesBehind 88 = .ok (.iconst 0, 1) := by decide +kernel
theorem dX11_goesBehind_89 : decode cX11_goesBehind 89 = .ok (.bastore, 1) := by decide +kernel
theorem dX11_goesBehind_90 : decode cX11_goesBehind 90 = .ok (.aload_n 0, 1) := by decide +kernel
theorem dX11_goesBehind_91 : decode cX11_goesBehind 91 = .ok (.getfield 31, 3) := by decide +kernel
theorem dX11_goesBehind_94 : decode cX11_goesBehind 94 = .ok (.aload_n 0, 1) := by decide +kernel
theorem dX11_goesBehind_95 : decode cX11_goesBehind 95 = .ok (.getfield 113, 3) := by decide +kernel
theorem dX11_goesBehind_98 : decode cX11_goesBehind 98 = .ok (.iload_n 1, 1) := by decide +kernel
theorem dX11_goesBehind_99 : decode cX11_goesBehind 99 = .ok (.iastore, 1) := by decide +kernel
theorem dX11_goesBehind_100 : decode cX11_goesBehind 100 = .ok (.aload_n 0, 1) := by decide +kernel
theorem dX11_goesBehind_101 : decode cX11_goesBehind 101 = .ok (.dup, 1) := by decide +kernel
theorem dX11_goesBehind_102 : decode cX11_goesBehind 102 = .ok (.getfield 113, 3) := by decide +kernel
theorem dX11_goesBehind_105 : decode cX11_goesBehind 105 = .ok (.iconst 1, 1) := by decide +kernel
theorem dX11_goesBehind_106 : decode cX11_goesBehind 106 = .ok (.iadd, 1) := by decide +kernel
theorem dX11_goesBehind_107 : decode cX11_goesBehind 107 = .ok (.putfield 113, 3) := by decide +kernel
theorem dX11_goesBehind_110 : decode cX11_goesBehind 110 = .ok (.aload_n 0, 1) := by decide +kernel
theorem dX11_goesBehind_111 : decode cX11_goesBehind 111 = .ok (.iconst 0, 1) := by decide +kernel
theorem dX11_goesBehind_112 : decode cX11_goesBehind 112 = .ok (.putfield 120, 3) := by decide +kernel
theorem dX11_goesBehind_115 : decode cX11_goesBehind 115 = .ok (.iconst 1, 1) := by decide +kernel
theorem dX11_goesBehind_116 : decode cX11_goesBehind 116 = .ok (.ireturn, 1) := by decide +kernel
theorem dX11_goesBehind_117 : decode cX11_goesBehind 117 = .ok (.aload_n 0, 1) := by decide +kernel
theorem dX11_goesBehind_118 : decode cX11_goesBehind 118 = .ok (.iconst 1, 1) := by decide +kernel
theorem dX11_goesBehind_119 : decode cX11_goesBehind 119 = .ok (.invokevirtual 164, 3) := by decide +kernel
theorem dX11_goesBehind_122 : decode cX11_goesBehind 122 = .ok (.aload_n 0, 1) := by decide +kernel
theorem dX11_goesBehind_123 : decode cX11_goesBehind 123 = .ok (.dup, 1) := by decide +kernel
theorem dX11_goesBehind_124 : decode cX11_goesBehind 124 = .ok (.getfield 113, 3) := by decide +kernel
theorem dX11_goesBehind_127 : decode cX11_goesBehind 127 = .ok (.iconst 1, 1) := by decide +kernel
theorem dX11_goesBehind_128 : decode cX11_goesBehind 128 = .ok (.isub, 1) := by decide +kernel
theorem dX11_goesBehind_129 : decode cX11_goesBehind 129 = .ok (.putfield 113, 3) := by decide +kernel
theorem dX11_goesBehind_132 : decode cX11_goesBehind 132 = .ok (.aload_n 0, 1) := by decide +kernel
theorem dX11_goesBehind_133 : decode cX11_goesBehind 133 = .ok (.dup, 1) := by decide +kernel
theorem dX11_goesBehind_134 : decode cX11_goesBehind 134 = .ok (.getfield 158, 3) := by decide +kernel
theorem dX11_goesBehind_137 : decode cX11_goesBehind 137 = .ok (.iconst 1, 1) := by decide +kernel
theorem dX11_goesBehind_138 : decode cX11_goesBehind 138 = .ok (.isub, 1) := by decide +kernel
theorem dX11_goesBehind_139 : decode cX11_goesBehind 139 = .ok (.putfield 158, 3) := by decide +kernel
theorem dX11_goesBehind_142 : decode cX11_goesBehind 142 = .ok (.aload_n 0, 1) := by decide +kernel
theorem dX11_goesBehind_143 : decode cX11_goesBehind 143 = .ok (.invokevirtual 145, 3) := by decide +kernel
theorem dX11_goesBehind_146 : decode cX11_goesBehind 146 = .ok (.iconst 1, 1) := by decide +kernel
theorem dX11_goesBehind_147 : decode cX11_goesBehind 147 = .ok (.ireturn, 1) := by decide +kernel
def f_M_goesBehind_b89 (F : Nat) (s : St) (l1 : Int32) (t1 : Int32) (t2 : Int32) : Option (Int32 × St) :=
  if t2 = 0 ∨ t2 = 1 then ((ix 64 t1).bind fun j9 => (lt (sA s 49 j9 t2) fun s10 => ((ix 64 (gI s10 2515)).bind fun j11 => (lt (sA s10 47 j11 l1) fun s12 => (lt (sI s12 2515 ((gI s12 2515) + 1)) fun s13 => (lt (sI s13 2505 0) fun s14 => (some (1, s14)))))))) else none
def f_M_goesBehind_b56 (F : Nat) (s : St) (l1 : Int32) (l2 : Int32) (t1 : Int32) : Option (Int32 × St) :=
  (f_M_putsWaiting F s t1).bind fun x7 => ((ix 64 (gI x7 2518)).bind fun j8 => (if (gA x7 49 j8) = 0 then
    (if l2 = 1 then
      (f_M_goesBehind_b89 F x7 l1 (gI x7 2518) 1)
    else
      (f_M_goesBehind_b89 F x7 l1 (gI x7 2518) 0))
  else
    (f_M_goesBehind_b89 F x7 l1 (gI x7 2518) 1)))
def f_M_goesBehind_b41 (F : Nat) (s : St) (l1 : Int32) (l2 : Int32) : Option (Int32 × St) :=
  if l2 ≤ 0 then
    ((f_M_putsWaiting F s 1).bind fun x3 => (lt (sI x3 2515 ((gI x3 2515) - 1)) fun s4 => (lt (sI s4 2518 ((gI s4 2518) - 1)) fun s5 => ((f_M_endsUnit F s5).bind fun x6 => (some (1, x6))))))
  else
    (if l2 = 1 then
      (f_M_goesBehind_b56 F s l1 l2 2)
    else
      (f_M_goesBehind_b56 F s l1 l2 l2))
def f_M_goesBehind (F : Nat) (s : St) (p1 : Int32) : Option (Int32 × St) :=
  (f_M_rank F s p1).bind fun x1 => (if x1.1 = 1 then
    ((ix 64 (gI x1.2 2518)).bind fun j2 => (if (gA x1.2 49 j2) = 0 then
      (if x1.1 = 0 then
        (if p1 = 41 then
          (if (gI x1.2 2518) = 0 then
            (some (0, x1.2))
          else
            (f_M_goesBehind_b41 F x1.2 p1 x1.1))
        else
          (some (0, x1.2)))
      else
        (f_M_goesBehind_b41 F x1.2 p1 x1.1))
    else
      (some (0, x1.2))))
  else
    (if x1.1 = 0 then
      (if p1 = 41 then
        (if (gI x1.2 2518) = 0 then
          (some (0, x1.2))
        else
          (f_M_goesBehind_b41 F x1.2 p1 x1.1))
      else
        (some (0, x1.2)))
    else
      (f_M_goesBehind_b41 F x1.2 p1 x1.1)))
set_option maxHeartbeats 1000000 in
theorem c_f_M_goesBehind_b89 {F : Nat} {Γ : Ga} {D : DD} {B : Nat} {r : Int32} {s' : St} (X : Cx Γ RX11 cX11_goesBehind 3 D B { frames := 2, cells := 0, slots := 0, locals := 44 }) (hr : (Gme Γ).sig.returnType = (some .boolean)) {s : St} {l1 : Int32} {t1 : Int32} {t2 : Int32} (hf : f_M_goesBehind_b89 F s l1 t1 t2 = some (r, s')) : V Γ D B true 3 (QM Γ D B true s' (some (.int r)) 0 0) 0 0 s 89 [(0, .ref (B + 39)), (1, .int l1)] [.int t2, .int t1, .ref (B + 49)] := by
  unfold f_M_goesBehind_b89 at hf
  refine ifo hf (fun hx hf => ?_)
  refine b_zast (pc := 89) X ce_49 (fun _ => ca_49 _ _) dX11_goesBehind_89 hf hx (fun j9 s10 hf => ?_)
  refine r_aload_n (x := some 39) (pc := 90) X dX11_goesBehind_90 0 rfl ?_
  refine r_get (j := 18) (pc := 91) X ce_39 rfl inT11 (by decide) w_1098 rfl dX11_goesBehind_91 ?_
  refine r_aload_n (x := some 39) (pc := 94) X dX11_goesBehind_94 0 rfl ?_
  refine r_get (j := 19) (pc := 95) X ce_39 rfl inT11 (by decide) w_1099 rfl dX11_goesBehind_95 ?_
  refine r_iload_n (pc := 98) X dX11_goesBehind_98 1 rfl ?_
  refine b_iast (pc := 99) X ce_47 (fun _ => ca_47 _ _) dX11_goesBehind_99 hf (fun j11 s12 hf => ?_)
  refine r_aload_n (x := some 39) (pc := 100) X dX11_goesBehind_100 0 rfl ?_
  refine r_dup (pc := 101) X dX11_goesBehind_101 rfl ?_
  refine r_get (j := 19) (pc := 102) X ce_39 rfl inT11 (by decide) w_1099 rfl dX11_goesBehind_102 ?_
  refine r_iconst (v := 1) (pc := 105) X dX11_goesBehind_105 (by decide) ?_
  refine r_iadd (pc := 106) X dX11_goesBehind_106 ?_
  refine b_put (j := 19) (pc := 107) X ce_39 rfl inT11 tyX11 tyX11_ok nmX11 (by decide) w_1099 rfl (tyX11_ok 19 (by decide)) rfl rfl (Nat.le_of_ble_eq_true rfl) (cp_2515 _) rfl rfl dX11_goesBehind_107 hf (fun s13 hf => ?_)
  refine r_aload_n (x := some 39) (pc := 110) X dX11_goesBehind_110 0 rfl ?_
  refine r_iconst (v := 0) (pc := 111) X dX11_goesBehind_111 (by decide) ?_
  refine b_put (j := 9) (pc := 112) X ce_39 rfl inT11 tyX11 tyX11_ok nmX11 (by decide) w_1089 rfl (tyX11_ok 9 (by decide)) rfl rfl (Nat.le_of_ble_eq_true rfl) (cp_2505 _) rfl rfl dX11_goesBehind_112 hf (fun s14 hf => ?_)
  refine r_iconst (v := 1) (pc := 115) X dX11_goesBehind_115 (by decide) ?_
  exact e_zret (pc := 116) X hr (by decide) hf (Nat.le_refl _) (Nat.le_refl _) dX11_goesBehind_116
set_option maxHeartbeats 1000000 in
theorem c_f_M_goesBehind_b56 {F : Nat} {Γ : Ga} {D : DD} {B : Nat} {r : Int32} {s' : St} (X : Cx Γ RX11 cX11_goesBehind 3 D B { frames := 2, cells := 0, slots := 0, locals := 44 }) (hr : (Gme Γ).sig.returnType = (some .boolean)) {s : St} {l1 : Int32} {l2 : Int32} {t1 : Int32} (hf : f_M_goesBehind_b56 F s l1 l2 t1 = some (r, s')) : V Γ D B true 3 (QM Γ D B true s' (some (.int r)) 0 0) 0 0 s 56 [(0, .ref (B + 39)), (1, .int l1), (2, .int l2)] [.int t1, .ref (B + 39)] := by
  unfold f_M_goesBehind_b56 at hf
  refine bnd hf (fun x7 h7 hf => ?_)
  refine r_callVv (As := [.int t1]) (st := []) (pc := 56) X (c_f_M_putsWaiting h7) rfl w_1321 w_1323 w_46 w_84 w_1324 hdV_X11_putsWaiting (Rc.s rfl ce_39) (by decide) (by decide) (by decide) (Nat.le_of_ble_eq_true rfl) dX11_goesBehind_56 rfl ?_
  refine r_aload_n (x := some 39) (pc := 59) X dX11_goesBehind_59 0 rfl ?_
  refine r_get (j := 24) (pc := 60) X ce_39 rfl inT11 (by decide) w_1104 rfl dX11_goesBehind_60 ?_
  refine r_aload_n (x := some 39) (pc := 63) X dX11_goesBehind_63 0 rfl ?_
  refine r_get (j := 22) (pc := 64) X ce_39 rfl inT11 (by decide) w_1102 rfl dX11_goesBehind_64 ?_
  refine r_aload_n (x := some 39) (pc := 67) X dX11_goesBehind_67 0 rfl ?_
  refine r_get (j := 24) (pc := 68) X ce_39 rfl inT11 (by decide) w_1104 rfl dX11_goesBehind_68 ?_
  refine r_aload_n (x := some 39) (pc := 71) X dX11_goesBehind_71 0 rfl ?_
  refine r_get (j := 22) (pc := 72) X ce_39 rfl inT11 (by decide) w_1102 rfl dX11_goesBehind_72 ?_
  refine b_zald (pc := 75) X ce_49 dX11_goesBehind_75 hf (fun j8 hf => ?_)
  refine b_if_ne (tgt := 84) (pc := 76) X dX11_goesBehind_76 (by decide) hf (fun hf => ?_) (fun hf => ?_)
  · refine r_iload_n (pc := 79) X dX11_goesBehind_79 2 rfl ?_
    refine r_iconst (v := 1) (pc := 80) X dX11_goesBehind_80 (by decide) ?_
    refine b_icmp_ne (tgt := 88) (pc := 81) X dX11_goesBehind_81 (by decide) hf (fun hf => ?_) (fun hf => ?_)
    · refine r_iconst (v := 1) (pc := 84) X dX11_goesBehind_84 (by decide) ?_
      refine r_goto (tgt := 89) (pc := 85) X dX11_goesBehind_85 (by decide) ?_
      refine r_forget (lv' := [(0, .ref (B + 39)), (1, .int l1)]) [0, 1] rfl ?_
      exact c_f_M_goesBehind_b89 X hr hf
    · refine r_iconst (v := 0) (pc := 88) X dX11_goesBehind_88 (by decide) ?_
      refine r_forget (lv' := [(0, .ref (B + 39)), (1, .int l1)]) [0, 1] rfl ?_
      exact c_f_M_goesBehind_b89 X hr hf
  · refine r_iconst (v := 1) (pc := 84) X dX11_goesBehind_84 (by decide) ?_
    refine r_goto (tgt := 89) (pc := 85) X dX11_goesBehind_85 (by decide) ?_
    refine r_forget (lv' := [(0, .ref (B + 39)), (1, .int l1)]) [0, 1] rfl ?_
    exact c_f_M_goesBehind_b89 X hr hf
set_option maxHeartbeats 1000000 in
theorem c_f_M_goesBehind_b41 {F : Nat} {Γ : Ga} {D : DD} {B : Nat} {r : Int32} {s' : St} (X : Cx Γ RX11 cX11_goesBehind 3 D B { frames := 2, cells := 0, slots := 0, locals := 44 }) (hr : (Gme Γ).sig.returnType = (some .boolean)) {s : St} {l1 : Int32} {l2 : Int32} (hf : f_M_goesBehind_b41 F s l1 l2 = some (r, s')) : V Γ D B true 3 (QM Γ D B true s' (some (.int r)) 0 0) 0 0 s 41 [(0, .ref (B + 39)), (1, .int l1), (2, .int l2)] [] := by
  unfold f_M_goesBehind_b41 at hf
  refine r_iload_n (pc := 41) X dX11_goesBehind_41 2 rfl ?_
  refine b_if_le (tgt := 117) (pc := 42) X dX11_goesBehind_42 (by decide) hf (fun hf => ?_) (fun hf => ?_)
  · refine r_aload_n (x := some 39) (pc := 117) X dX11_goesBehind_117 0 rfl ?_
    refine r_iconst (v := 1) (pc := 118) X dX11_goesBehind_118 (by decide) ?_
    refine bnd hf (fun x3 h3 hf => ?_)
    refine r_callVv (As := [.int 1]) (st := []) (pc := 119) X (c_f_M_putsWaiting h3) rfl w_1321 w_1323 w_46 w_84 w_1324 hdV_X11_putsWaiting (Rc.s rfl ce_39) (by decide) (by decide) (by decide) (Nat.le_of_ble_eq_true rfl) dX11_goesBehind_119 rfl ?_
    refine r_aload_n (x := some 39) (pc := 122) X dX11_goesBehind_122 0 rfl ?_
    refine r_dup (pc := 123) X dX11_goesBehind_123 rfl ?_
    refine r_get (j := 19) (pc := 124) X ce_39 rfl inT11 (by decide) w_1099 rfl dX11_goesBehind_124 ?_
    refine r_iconst (v := 1) (pc := 127) X dX11_goesBehind_127 (by decide) ?_
    refine r_isub (pc := 128) X dX11_goesBehind_128 ?_
    refine b_put (j := 19) (pc := 129) X ce_39 rfl inT11 tyX11 tyX11_ok nmX11 (by decide) w_1099 rfl (tyX11_ok 19 (by decide)) rfl rfl (Nat.le_of_ble_eq_true rfl) (cp_2515 _) rfl rfl dX11_goesBehind_129 hf (fun s4 hf => ?_)
    refine r_aload_n (x := some 39) (pc := 132) X dX11_goesBehind_132 0 rfl ?_
    refine r_dup (pc := 133) X dX11_goesBehind_133 rfl ?_
    refine r_get (j := 22) (pc := 134) X ce_39 rfl inT11 (by decide) w_1102 rfl dX11_goesBehind_134 ?_
    refine r_iconst (v := 1) (pc := 137) X dX11_goesBehind_137 (by decide) ?_
    refine r_isub (pc := 138) X dX11_goesBehind_138 ?_
    refine b_put (j := 22) (pc := 139) X ce_39 rfl inT11 tyX11 tyX11_ok nmX11 (by decide) w_1102 rfl (tyX11_ok 22 (by decide)) rfl rfl (Nat.le_of_ble_eq_true rfl) (cp_2518 _) rfl rfl dX11_goesBehind_139 hf (fun s5 hf => ?_)
    refine r_aload_n (x := some 39) (pc := 142) X dX11_goesBehind_142 0 rfl ?_
    refine bnd hf (fun x6 h6 hf => ?_)
    refine r_callVv (As := []) (st := []) (pc := 143) X (c_f_M_endsUnit h6) rfl w_1295 w_1297 w_41 w_84 w_1298 hdV_X11_endsUnit (Rc.s rfl ce_39) (by decide) (by decide) (by decide) (Nat.le_of_ble_eq_true rfl) dX11_goesBehind_143 rfl ?_
    refine r_iconst (v := 1) (pc := 146) X dX11_goesBehind_146 (by decide) ?_
    exact e_zret (pc := 147) X hr (by decide) hf (Nat.le_refl _) (Nat.le_refl _) dX11_goesBehind_147
  · refine r_aload_n (x := some 39) (pc := 45) X dX11_goesBehind_45 0 rfl ?_
    refine r_iload_n (pc := 46) X dX11_goesBehind_46 2 rfl ?_
    refine r_iconst (v := 1) (pc := 47) X dX11_goesBehind_47 (by decide) ?_
    refine b_icmp_ne (tgt := 55) (pc := 48) X dX11_goesBehind_48 (by decide) hf (fun hf => ?_) (fun hf => ?_)
    · refine r_iconst (v := 2) (pc := 51) X dX11_goesBehind_51 (by decide) ?_
      refine r_goto (tgt := 56) (pc := 52) X dX11_goesBehind_52 (by decide) ?_
      exact c_f_M_goesBehind_b56 X hr hf
    · refine r_iload_n (pc := 55) X dX11_goesBehind_55 2 rfl ?_
      exact c_f_M_goesBehind_b56 X hr hf
set_option maxHeartbeats 1000000 in
theorem c_f_M_goesBehind {F : Nat} {s : St} {p1 : Int32} {r : Int32} {s' : St} (hf : f_M_goesBehind F s p1 = some (r, s')) : CC true yX11_goesBehind (Cond.code yX11_goesBehind cX11_goesBehind 3 (some .boolean)) 2 44 (fun B => [.ref (B + 39), .int p1]) s (fun B => (some (.int r))) s' 0 0 := by
  refine CC.of (fun B => [(0, .ref (B + 39)), (1, .int p1)]) (by decide +kernel) (fun _ => rfl) (fun _ => (by simp [lg_sl, rfB_cat, catI, catL, catR])) (fun Γ D B X hr hin => ?_)
  have X : Cx Γ RX11 cX11_goesBehind 3 D B { frames := 2, cells := 0, slots := 0, locals := 44 } := X
  unfold f_M_goesBehind at hf
  refine r_iload_n (pc := 0) X dX11_goesBehind_0 1 rfl ?_
  refine bnd hf (fun x1 h1 hf => ?_)
  refine r_callSi (As := [.int p1]) (st := []) (pc := 1) X (c_f_M_rank h1) rfl w_1318 w_1319 w_84 w_1320 hdS_X11_rank (by decide) (by decide) (by decide) (Nat.le_of_ble_eq_true rfl) dX11_goesBehind_1 rfl ?_
  refine r_istore_n (pc := 4) (lv' := [(0, .ref (B + 39)), (1, .int p1), (2, .int x1.1)]) X dX11_goesBehind_4 (by decide) [1, 2, 0] rfl ?_
  refine r_iload_n (pc := 5) X dX11_goesBehind_5 2 rfl ?_
  refine r_iconst (v := 1) (pc := 6) X dX11_goesBehind_6 (by decide) ?_
  refine b_icmp_ne (tgt := 22) (pc := 7) X dX11_goesBehind_7 (by decide) hf (fun hf => ?_) (fun hf => ?_)
  · refine r_aload_n (x := some 39) (pc := 10) X dX11_goesBehind_10 0 rfl ?_
    refine r_get (j := 24) (pc := 11) X ce_39 rfl inT11 (by decide) w_1104 rfl dX11_goesBehind_11 ?_
    refine r_aload_n (x := some 39) (pc := 14) X dX11_goesBehind_14 0 rfl ?_
    refine r_get (j := 22) (pc := 15) X ce_39 rfl inT11 (by decide) w_1102 rfl dX11_goesBehind_15 ?_
    refine b_zald (pc := 18) X ce_49 dX11_goesBehind_18 hf (fun j2 hf => ?_)
    refine b_if_ne (tgt := 39) (pc := 19) X dX11_goesBehind_19 (by decide) hf (fun hf => ?_) (fun hf => ?_)
    · refine r_iload_n (pc := 22) X dX11_goesBehind_22 2 rfl ?_
      refine b_if_ne (tgt := 41) (pc := 23) X dX11_goesBehind_23 (by decide) hf (fun hf => ?_) (fun hf => ?_)
      · refine r_iload_n (pc := 26) X dX11_goesBehind_26 1 rfl ?_
        refine r_bipush (v := 41) (pc := 27) X dX11_goesBehind_27 (by decide) ?_
        refine b_icmp_ne (tgt := 39) (pc := 29) X dX11_goesBehind_29 (by decide) hf (fun hf => ?_) (fun hf => ?_)
        · refine r_aload_n (x := some 39) (pc := 32) X dX11_goesBehind_32 0 rfl ?_
          refine r_get (j := 22) (pc := 33) X ce_39 rfl inT11 (by decide) w_1102 rfl dX11_goesBehind_33 ?_
          refine b_if_ne (tgt := 41) (pc := 36) X dX11_goesBehind_36 (by decide) hf (fun hf => ?_) (fun hf => ?_)
          · refine r_iconst (v := 0) (pc := 39) X dX11_goesBehind_39 (by decide) ?_
            exact e_zret (pc := 40) X hr (by decide) hf (Nat.le_refl _) (Nat.le_refl _) dX11_goesBehind_40
          · exact c_f_M_goesBehind_b41 X hr hf
        · refine r_iconst (v := 0) (pc := 39) X dX11_goesBehind_39 (by decide) ?_
          exact e_zret (pc := 40) X hr (by decide) hf (Nat.le_refl _) (Nat.le_refl _) dX11_goesBehind_40
      · exact c_f_M_goesBehind_b41 X hr hf
    · refine r_iconst (v := 0) (pc := 39) X dX11_goesBehind_39 (by decide) ?_
      exact e_zret (pc := 40) X hr (by decide) hf (Nat.le_refl _) (Nat.le_refl _) dX11_goesBehind_40
  · refine r_iload_n (pc := 22) X dX11_goesBehind_22 2 rfl ?_
    refine b_if_ne (tgt := 41) (pc := 23) X dX11_goesBehind_23 (by decide) hf (fun hf => ?_) (fun hf => ?_)
    · refine r_iload_n (pc := 26) X dX11_goesBehind_26 1 rfl ?_
      refine r_bipush (v := 41) (pc := 27) X dX11_goesBehind_27 (by decide) ?_
      refine b_icmp_ne (tgt := 39) (pc := 29) X dX11_goesBehind_29 (by decide) hf (fun hf => ?_) (fun hf => ?_)
      · refine r_aload_n (x := some 39) (pc := 32) X dX11_goesBehind_32 0 rfl ?_
        refine r_get (j := 22) (pc := 33) X ce_39 rfl inT11 (by decide) w_1102 rfl dX11_goesBehind_33 ?_
        refine b_if_ne (tgt := 41) (pc := 36) X dX11_goesBehind_36 (by decide) hf (fun hf => ?_) (fun hf => ?_)
        · refine r_iconst (v := 0) (pc := 39) X dX11_goesBehind_39 (by decide) ?_
          exact e_zret (pc := 40) X hr (by decide) hf (Nat.le_refl _) (Nat.le_refl _) dX11_goesBehind_40
        · exact c_f_M_goesBehind_b41 X hr hf
      · refine r_iconst (v := 0) (pc := 39) X dX11_goesBehind_39 (by decide) ?_
        exact e_zret (pc := 40) X hr (by decide) hf (Nat.le_refl _) (Nat.le_refl _) dX11_goesBehind_40
    · exact c_f_M_goesBehind_b41 X hr hf
/-! f_M_goesMore -/
theorem dX11_goesMore_0 : decode cX11_goesMore 0 = .ok (.iload_n 1, 1) := by decide +kernel
theorem dX11_goesMore_1 : decode cX11_goesMore 1 = .ok (.bipush 41, 2) := by decide +kernel
theorem dX11_goesMore_3 : decode cX11_goesMore 3 = .ok (.if_icmp .ne 10, 3) := by decide +kernel
theorem dX11_goesMore_6 : decode cX11_goesMore 6 = .ok (.aload_n 0, 1) := by decide +kernel
theorem dX11_goesMore_7 : decode cX11_goesMore 7 = .ok (.iconst 0, 1) := by decide +kernel
theorem dX11_goesMore_8 : decode cX11_goesMore 8 = .ok (.invokevirtual 168, 3) := by decide +kernel
theorem dX11_goesMore_11 : decode cX11_goesMore 11 = .ok (.iconst 1, 1) := by decide +kernel
theorem dX11_goesMore_12 : decode cX11_goesMore 12 = .ok (.ireturn, 1) := by decide +kernel
theorem dX11_goesMore_13 : decode cX11_goesMore 13 = .ok (.aload_n 0, 1) := by decide +kernel
theorem dX11_goesMore_14 : decode cX11_goesMore 14 = .ok (.aload_n 0, 1) := by decide +kernel
theorem dX11_goesMore_15 : decode cX11_goesMore 15 = .ok (.getfield 28, 3) := by decide +kernel
theorem dX11_goesMore_18 : decode cX11_goesMore 18 = .ok (.aload_n 0, 1) := by decide +kernel
theorem dX11_goesMore_19 : decode cX11_goesMore 19 = .ok (.getfield 106, 3) := by decide +kernel
theorem dX11_goesMore_22 : decode cX11_goesMore 22 = .ok (.iaload, 1) := by decide +kernel
theorem dX11_goesMore_23 : decode cX11_goesMore 23 = .ok (.putfield 142, 3) := by decide +kernel
theorem dX11_goesMore_26 : decode cX11_goesMore 26 = .ok (.aload_n 0, 1) := by decide +kernel
theorem dX11_goesMore_27 : decode cX11_goesMore 27 = .ok (.iconst 0, 1) := by decide +kernel
theorem dX11_goesMore_28 : decode cX11_goesMore 28 = .ok (.putfield 127, 3) := by decide +kernel
theorem dX11_goesMore_31 : decode cX11_goesMore 31 = .ok (.aload_n 0, 1) := by decide +kernel
theorem dX11_goesMore_32 : decode cX11_goesMore 32 = .ok (.iconst 0, 1) := by decide +kernel
theorem dX11_goesMore_33 : decode cX11_goesMore 33 = .ok (.putfield 172, 3) := by decide +kernel
theorem dX11_goesMore_36 : decode cX11_goesMore 36 = .ok (.aload_n 0, 1) := by decide +kernel
theorem dX11_goesMore_37 : decode cX11_goesMore 37 = .ok (.bipush 6, 2) := by decide +kernel
theorem dX11_goesMore_39 : decode cX11_goesMore 39 = .ok (.putfield 120, 3) := by decide +kernel
theorem dX11_goesMore_42 : decode cX11_goesMore 42 = .ok (.iload_n 1, 1) := by decide +kernel
theorem dX11_goesMore_43 : decode cX11_goesMore 43 = .ok (.bipush 58, 2) := by decide +kernel
theorem dX11_goesMore_45 : decode cX11_goesMore 45 = .ok (.if_icmp .ne 7, 3) := by decide +kernel
theorem dX11_goesMore_48 : decode cX11_goesMore 48 = .ok (.iconst 1, 1) := by decide +kernel
theorem dX11_goesMore_49 : decode cX11_goesMore 49 = .ok (.goto 4, 3) := by decide +kernel
theorem dX11_goesMore_52 : decode cX11_goesMore 52 = .ok (.iconst 0, 1) := by decide +kernel
theorem dX11_goesMore_53 : decode cX11_goesMore 53 = .ok (.ireturn, 1) := by decide +kernel
def f_M_goesMore (F : Nat) (s : St) (p1 : Int32) : Option (Int32 × St) :=
  if p1 = 41 then
    ((f_M_endsAggregate F s 0).bind fun x1 => (some (1, x1)))
  else
    ((ix 5 (gI s 2504)).bind fun j2 => (lt (sI s 2511 (gA s 46 j2)) fun s3 => (lt (sI s3 2517 0) fun s4 => (lt (sI s4 2519 0) fun s5 => (lt (sI s5 2505 6) fun s6 => (if p1 = 58 then
      (some (1, s6))
    else
      (some (0, s6))))))))
set_option maxHeartbeats 1000000 in
theorem c_f_M_goesMore {F : Nat} {s : St} {p1 : Int32} {r : Int32} {s' : St} (hf : f_M_goesMore F s p1 = some (r, s')) : CC true yX11_goesMore (Cond.code yX11_goesMore cX11_goesMore 2 (some .boolean)) 3 65 (fun B => [.ref (B + 39), .int p1]) s (fun B => (some (.int r))) s' 0 0 := by
  refine CC.of (fun B => [(0, .ref (B + 39)), (1, .int p1)]) (by decide +kernel) (fun _ => rfl) (fun _ => (by simp [lg_sl, rfB_cat, catI, catL, catR])) (fun Γ D B X hr hin => ?_)
  have X : Cx Γ RX11 cX11_goesMore 2 D B { frames := 3, cells := 0, slots := 0, locals := 65 } := X
  unfold f_M_goesMore at hf
  refine r_iload_n (pc := 0) X dX11_goesMore_0 1 rfl ?_
  refine r_bipush (v := 41) (pc := 1) X dX11_goesMore_1 (by decide) ?_
  refine b_icmp_ne (tgt := 13) (pc := 3) X dX11_goesMore_3 (by decide) hf (fun hf => ?_) (fun hf => ?_)
  · refine r_aload_n (x := some 39) (pc := 6) X dX11_goesMore_6 0 rfl ?_
    refine r_iconst (v := 0) (pc := 7) X dX11_goesMore_7 (by decide) ?_
    refine bnd hf (fun x1 h1 hf => ?_)
    refine r_callVv (As := [.int 0]) (st := []) (pc := 8) X (c_f_M_endsAggregate h1) rfl w_1332 w_1334 w_48 w_84 w_1335 hdV_X11_endsAggregate (Rc.s rfl ce_39) (by decide) (by decide) (by decide) (Nat.le_of_ble_eq_true rfl) dX11_goesMore_8 rfl ?_
    refine r_iconst (v := 1) (pc := 11) X dX11_goesMore_11 (by decide) ?_
    exact e_zret (pc := 12) X hr (by decide) hf (Nat.le_refl _) (Nat.le_refl _) dX11_goesMore_12
  · refine r_aload_n (x := some 39) (pc := 13) X dX11_goesMore_13 0 rfl ?_
    refine r_aload_n (x := some 39) (pc := 14) X dX11_goesMore_14 0 rfl ?_
    refine r_get (j := 7) (pc := 15) X ce_39 rfl inT11 (by decide) w_1087 rfl dX11_goesMore_15 ?_
    refine r_aload_n (x := some 39) (pc := 18) X dX11_goesMore_18 0 rfl ?_
    refine r_get (j := 8) (pc := 19) X ce_39 rfl inT11 (by decide) w_1088 rfl dX11_goesMore_19 ?_
    refine b_iald (pc := 22) X ce_46 dX11_goesMore_22 hf (fun j2 hf => ?_)
    refine b_put (j := 15) (pc := 23) X ce_39 rfl inT11 tyX11 tyX11_ok nmX11 (by decide) w_1095 rfl (tyX11_ok 15 (by decide)) rfl rfl (Nat.le_of_ble_eq_true rfl) (cp_2511 _) rfl rfl dX11_goesMore_23 hf (fun s3 hf => ?_)
    refine r_aload_n (x := some 39) (pc := 26) X dX11_goesMore_26 0 rfl ?_
    refine r_iconst (v := 0) (pc := 27) X dX11_goesMore_27 (by decide) ?_
    refine b_put (j := 21) (pc := 28) X ce_39 rfl inT11 tyX11 tyX11_ok nmX11 (by decide) w_1101 rfl (tyX11_ok 21 (by decide)) rfl rfl (Nat.le_of_ble_eq_true rfl) (cp_2517 _) rfl rfl dX11_goesMore_28 hf (fun s4 hf => ?_)
    refine r_aload_n (x := some 39) (pc := 31) X dX11_goesMore_31 0 rfl ?_
    refine r_iconst (v := 0) (pc := 32) X dX11_goesMore_32 (by decide) ?_
    refine b_put (j := 23) (pc := 33) X ce_39 rfl inT11 tyX11 tyX11_ok nmX11 (by decide) w_1103 rfl (tyX11_ok 23 (by decide)) rfl rfl (Nat.le_of_ble_eq_true rfl) (cp_2519 _) rfl rfl dX11_goesMore_33 hf (fun s5 hf => ?_)
    refine r_aload_n (x := some 39) (pc := 36) X dX11_goesMore_36 0 rfl ?_
    refine r_bipush (v := 6) (pc := 37) X dX11_goesMore_37 (by decide) ?_
    refine b_put (j := 9) (pc := 39) X ce_39 rfl inT11 tyX11 tyX11_ok nmX11 (by decide) w_1089 rfl (tyX11_ok 9 (by decide)) rfl rfl (Nat.le_of_ble_eq_true rfl) (cp_2505 _) rfl rfl dX11_goesMore_39 hf (fun s6 hf => ?_)
    refine r_iload_n (pc := 42) X dX11_goesMore_42 1 rfl ?_
    refine r_bipush (v := 58) (pc := 43) X dX11_goesMore_43 (by decide) ?_
    refine b_icmp_ne (tgt := 52) (pc := 45) X dX11_goesMore_45 (by decide) hf (fun hf => ?_) (fun hf => ?_)
    · refine r_iconst (v := 1) (pc := 48) X dX11_goesMore_48 (by decide) ?_
      refine r_goto (tgt := 53) (pc := 49) X dX11_goesMore_49 (by decide) ?_
      exact e_zret (pc := 53) X hr (by decide) hf (Nat.le_refl _) (Nat.le_refl _) dX11_goesMore_53
    · refine r_iconst (v := 0) (pc := 52) X dX11_goesMore_52 (by decide) ?_
      exact e_zret (pc := 53) X hr (by decide) hf (Nat.le_refl _) (Nat.le_refl _) dX11_goesMore_53
/-! f_M_goesToTerm -/
theorem dX11_goesToTerm_0 : decode cX11_goesToTerm 0 = .ok (.iload_n 1, 1) := by decide +kernel
theorem dX11_goesToTerm_1 : decode cX11_goesToTerm 1 = .ok (.bipush 33, 2) := by decide +kernel
theorem dX11_goesToTerm_3 : decode cX11_goesToTerm 3 = .ok (.if_icmp .eq 9, 3) := by decide +kernel
theorem dX11_goesToTerm_6 : decode cX11_goesToTerm 6 = .ok (.iload_n 1, 1) := by decide +kernel
theorem dX11_goesToTerm_7 : decode cX11_goesToTerm 7 = .ok (.bipush 40, 2) := by decide +kernel
theorem dX11_goesToTerm_9 : decode cX11_goesToTerm 9 = .ok (.if_icmp .ne 45, 3) := by decide +kernel
theorem dX11_goesToTerm_12 : decode cX11_goesToTerm 12 = .ok (.aload_n 0, 1) := by decide +kernel
theorem dX11_goesToTerm_13 : decode cX11_goesToTerm 13 = .ok (.getfield 34, 3) := by decide +kernel
theorem dX11_goesToTerm_16 : decode cX11_goesToTerm 16 = .ok (.aload_n 0, 1) := by decide +kernel
theorem dX11_goesToTerm_17 : decode cX11_goesToTerm 17 = .ok (.getfield 127, 3) := by decide +kernel
theorem dX11_goesToTerm_20 : decode cX11_goesToTerm 20 = .ok (.iload_n 1, 1) := by decide +kernel
theorem dX11_goesToTerm_21 : decode cX11_goesToTerm 21 = .ok (.iastore, 1) := by decide +kernel
theorem dX11_goesToTerm_22 : decode cX11_goesToTerm 22 = .ok (.aload_n 0, 1) := by decide +kernel
theorem dX11_goesToTerm_23 : decode cX11_goesToTerm 23 = .ok (.dup, 1) := by decide +kernel
theorem dX11_goesToTerm_24 : decode cX11_goesToTerm 24 = .ok (.getfield 127, 3) := by decide +kernel
theorem dX11_goesToTerm_27 : decode cX11_goesToTerm 27 = .ok (.iconst 1, 1) := by decide +kernel
theorem dX11_goesToTerm_28 : decode cX11_goesToTerm 28 = .ok (.iadd, 1) := by decide +kernel
theorem dX11_goesToTerm_29 : decode cX11_goesToTerm 29 = .ok (.putfield 127, 3) := by decide +kernel
theorem dX11_goesToTerm_32 : decode cX11_goesToTerm 32 = .ok (.aload_n 0, 1) := by decide +kernel
theorem dX11_goesToTerm_33 : decode cX11_goesToTerm 33 = .ok (.dup, 1) := by decide +kernel
theorem dX11_goesToTerm_34 : decode cX11_goesToTerm 34 = .ok (.getfield 172, 3) := by decide +kernel
theorem dX11_goesToTerm_37 : decode cX11_goesToTerm 37 = .ok (.iload_n 1, 1) := by decide +kernel
theorem dX11_goesToTerm_38 : decode cX11_goesToTerm 38 = .ok (.bipush 40, 2) := by decide +kernel
theorem dX11_goesToTerm_40 : decode cX11_goesToTerm 40 = .ok (.if_icmp .ne 7, 3) := by decide +kernel
theorem dX11_goesToTerm_43 : decode cX11_goesToTerm 43 = .ok (.iconst 1, 1) := by decide +kernel
theorem dX11_goesToTerm_44 : decode cX11_goesToTerm 44 = .ok (.goto 4, 3) := by decide +kernel
theorem dX11_goesToTerm_47 : decode cX11_goesToTerm 47 = .ok (.iconst 0, 1) := by decide +kernel
theorem dX11_goesToTerm_48 : decode cX11_goesToTerm 48 = .ok (.iadd, 1) := by decide +kernel
theorem dX11_goesToTerm_49 : decode cX11_goesToTerm 49 = .ok (.putfield 172, 3) := by decide +kernel
theorem dX11_goesToTerm_52 : decode cX11_goesToTerm 52 = .ok (.iconst 1, 1) := by decide +kernel
theorem dX11_goesToTerm_53 : decode cX11_goesToTerm 53 = .ok (.ireturn, 1) := by decide +kernel
theorem dX11_goesToTerm_54 : decode cX11_goesToTerm 54 = .ok (.aload_n 0, 1) := by decide +kernel
theorem dX11_goesToTerm_55 : decode cX11_goesToTerm 55 = .ok (.iload_n 1, 1) := by decide +kernel
theorem dX11_goesToTerm_56 : decode cX11_goesToTerm 56 = .ok (.invokestatic 175, 3) := by decide +kernel
theorem dX11_goesToTerm_59 : decode cX11_goesToTerm 59 = .ok (.putfield 178, 3) := by decide +kernel
theorem dX11_goesToTerm_62 : decode cX11_goesToTerm 62 = .ok (.aload_n 0, 1) := by decide +kernel
theorem dX11_goesToTerm_63 : decode cX11_goesToTerm 63 = .ok (.bipush 7, 2) := by decide +kernel
theorem dX11_goesToTerm_65 : decode cX11_goesToTerm 65 = .ok (.putfield 120, 3) := by decide +kernel
theorem dX11_goesToTerm_68 : decode cX11_goesToTerm 68 = .ok (.aload_n 0, 1) := by decide +kernel
theorem dX11_goesToTerm_69 : decode cX11_goesToTerm 69 = .ok (.getfield 178, 3) := by decide +kernel
theorem dX11_goesToTerm_72 : decode cX11_goesToTerm 72 = .ok (.iconst (-1), 1) := by decide +kernel
theorem dX11_goesToTerm_73 : decode cX11_goesToTerm 73 = .ok (.if_icmp .eq 7, 3) := by decide +kernel
theorem dX11_goesToTerm_76 : decode cX11_goesToTerm 76 = .ok (.iconst 1, 1) := by decide +kernel
theorem dX11_goesToTerm_77 : decode cX11_goesToTerm 77 = .ok (.goto 4, 3) := by decide +kernel
theorem dX11_goesToTerm_80 : decode cX11_goesToTerm 80 = .ok (.iconst 0, 1) := by decide +kernel
theorem dX11_goesToTerm_81 : decode cX11_goesToTerm 81 = .ok (.ireturn, 1) := by decide +kernel
def f_M_goesToTerm_b12 (F : Nat) (s : St) (l1 : Int32) : Option (Int32 × St) :=
  (ix 64 (gI s 2517)).bind fun j1 => (lt (sA s 48 j1 l1) fun s2 => (lt (sI s2 2517 ((gI s2 2517) + 1)) fun s3 => (if l1 = 40 then
    (lt (sI s3 2519 ((gI s3 2519) + 1)) fun s4 => (some (1, s4)))
  else
    (lt (sI s3 2519 ((gI s3 2519) + 0)) fun s5 => (some (1, s5))))))
def f_M_goesToTerm (F : Nat) (s : St) (p1 : Int32) : Option (Int32 × St) :=
  if p1 = 33 then
    (f_M_goesToTerm_b12 F s p1)
  else
    (if p1 = 40 then
      (f_M_goesToTerm_b12 F s p1)
    else
      ((f_M_fieldOf F s p1).bind fun x6 => (lt (sI x6.2 2512 x6.1) fun s7 => (lt (sI s7 2505 7) fun s8 => (if (gI s8 2512) = (-1) then
        (some (0, s8))
      else
        (some (1, s8)))))))
set_option maxHeartbeats 1000000 in
theorem c_f_M_goesToTerm_b12 {F : Nat} {Γ : Ga} {D : DD} {B : Nat} {r : Int32} {s' : St} (X : Cx Γ RX11 cX11_goesToTerm 2 D B { frames := 1, cells := 0, slots := 0, locals := 20 }) (hr : (Gme Γ).sig.returnType = (some .boolean)) {s : St} {l1 : Int32} (hf : f_M_goesToTerm_b12 F s l1 = some (r, s')) : V Γ D B true 2 (QM Γ D B true s' (some (.int r)) 0 0) 0 0 s 12 [(0, .ref (B + 39)), (1, .int l1)] [] := by
  unfold f_M_goesToTerm_b12 at hf
  refine r_aload_n (x := some 39) (pc := 12) X dX11_goesToTerm_12 0 rfl ?_
  refine r_get (j := 20) (pc := 13) X ce_39 rfl inT11 (by decide) w_1100 rfl dX11_goesToTerm_13 ?_
  refine r_aload_n (x := some 39) (pc := 16) X dX11_goesToTerm_16 0 rfl ?_
  refine r_get (j := 21) (pc := 17) X ce_39 rfl inT11 (by decide) w_1101 rfl dX11_goesToTerm_17 ?_
  refine r_iload_n (pc := 20) X dX11_goesToTerm_20 1 rfl ?_
  refine b_iast (pc := 21) X ce_48 (fun _ => ca_48 _ _) dX11_goesToTerm_21 hf (fun j1 s2 hf => ?_)
  refine r_aload_n (x := some 39) (pc := 22) X dX11_goesToTerm_22 0 rfl ?_
  refine r_dup (pc := 23) X dX11_goesToTerm_23 rfl ?_
  refine r_get (j := 21) (pc := 24) X ce_39 rfl inT11 (by decide) w_1101 rfl dX11_goesToTerm_24 ?_
  refine r_iconst (v := 1) (pc := 27) X dX11_goesToTerm_27 (by decide) ?_
  refine r_iadd (pc := 28) X dX11_goesToTerm_28 ?_
  refine b_put (j := 21) (pc := 29) X ce_39 rfl inT11 tyX11 tyX11_ok nmX11 (by decide) w_1101 rfl (tyX11_ok 21 (by decide)) rfl rfl (Nat.le_of_ble_eq_true rfl) (cp_2517 _) rfl rfl dX11_goesToTerm_29 hf (fun s3 hf => ?_)
  refine r_aload_n (x := some 39) (pc := 32) X dX11_goesToTerm_32 0 rfl ?_
  refine r_dup (pc := 33) X dX11_goesToTerm_33 rfl ?_
  refine r_get (j := 23) (pc := 34) X ce_39 rfl inT11 (by decide) w_1103 rfl dX11_goesToTerm_34 ?_
  refine r_iload_n (pc := 37) X dX11_goesToTerm_37 1 rfl ?_
  refine r_bipush (v := 40) (pc := 38) X dX11_goesToTerm_38 (by decide) ?_
  refine b_icmp_ne (tgt := 47) (pc := 40) X dX11_goesToTerm_40 (by decide) hf (fun hf => ?_) (fun hf => ?_)
  · refine r_iconst (v := 1) (pc := 43) X dX11_goesToTerm_43 (by decide) ?_
    refine r_goto (tgt := 48) (pc := 44) X dX11_goesToTerm_44 (by decide) ?_
    refine r_iadd (pc := 48) X dX11_goesToTerm_48 ?_
    refine b_put (j := 23) (pc := 49) X ce_39 rfl inT11 tyX11 tyX11_ok nmX11 (by decide) w_1103 rfl (tyX11_ok 23 (by decide)) rfl rfl (Nat.le_of_ble_eq_true rfl) (cp_2519 _) rfl rfl dX11_goesToTerm_49 hf (fun s4 hf => ?_)
    refine r_iconst (v := 1) (pc := 52) X dX11_goesToTerm_52 (by decide) ?_
    exact e_zret (pc := 53) X hr (by decide) hf (Nat.le_refl _) (Nat.le_refl _) dX11_goesToTerm_53
  · refine r_iconst (v := 0) (pc := 47) X dX11_goesToTerm_47 (by decide) ?_
    refine r_iadd (pc := 48) X dX11_goesToTerm_48 ?_
    refine b_put (j := 23) (pc := 49) X ce_39 rfl inT11 tyX11 tyX11_ok nmX11 (by decide) w_1103 rfl (tyX11_ok 23 (by decide)) rfl rfl (Nat.le_of_ble_eq_true rfl) (cp_2519 _) rfl rfl dX11_goesToTerm_49 hf (fun s5 hf => ?_)
    refine r_iconst (v := 1) (pc := 52) X dX11_goesToTerm_52 (by decide) ?_
    exact e_zret (pc := 53) X hr (by decide) hf (Nat.le_refl _) (Nat.le_refl _) dX11_goesToTerm_53
set_option maxHeartbeats 1000000 in
theorem c_f_M_goesToTerm {F : Nat} {s : St} {p1 : Int32} {r : Int32} {s' : St} (hf : f_M_goesToTerm F s p1 = some (r, s')) : CC true yX11_goesToTerm (Cond.code yX11_goesToTerm cX11_goesToTerm 2 (some .boolean)) 1 20 (fun B => [.ref (B + 39), .int p1]) s (fun B => (some (.int r))) s' 0 0 := by
  refine CC.of (fun B => [(0, .ref (B + 39)), (1, .int p1)]) (by decide +kernel) (fun _ => rfl) (fun _ => (by simp [lg_sl, rfB_cat, catI, catL, catR])) (fun Γ D B X hr hin => ?_)
  have X : Cx Γ RX11 cX11_goesToTerm 2 D B { frames := 1, cells := 0, slots := 0, locals := 20 } := X
  unfold f_M_goesToTerm at hf
  refine r_iload_n (pc := 0) X dX11_goesToTerm_0 1 rfl ?_
  refine r_bipush (v := 33) (pc := 1) X dX11_goesToTerm_1 (by decide) ?_
  refine b_icmp_eq (tgt := 12) (pc := 3) X dX11_goesToTerm_3 (by decide) hf (fun hf => ?_) (fun hf => ?_)
  · exact c_f_M_goesToTerm_b12 X hr hf
  · refine r_iload_n (pc := 6) X dX11_goesToTerm_6 1 rfl ?_
    refine r_bipush (v := 40) (pc := 7) X dX11_goesToTerm_7 (by decide) ?_
    refine b_icmp_ne (tgt := 54) (pc := 9) X dX11_goesToTerm_9 (by decide) hf (fun hf => ?_) (fun hf => ?_)
    · exact c_f_M_goesToTerm_b12 X hr hf
    · refine r_aload_n (x := some 39) (pc := 54) X dX11_goesToTerm_54 0 rfl ?_
      refine r_iload_n (pc := 55) X dX11_goesToTerm_55 1 rfl ?_
      refine bnd hf (fun x6 h6 hf => ?_)
      refine r_callSi (As := [.int p1]) (st := [.ref (B + 39)]) (pc := 56) X (c_f_M_fieldOf h6) rfl w_1325 w_1326 w_84 w_1327 hdS_X11_fieldOf (by decide) (by decide) (by decide) (Nat.le_of_ble_eq_true rfl) dX11_goesToTerm_56 rfl ?_
      refine b_put (j := 16) (pc := 59) X ce_39 rfl inT11 tyX11 tyX11_ok nmX11 (by decide) w_1096 rfl (tyX11_ok 16 (by decide)) rfl rfl (Nat.le_of_ble_eq_true rfl) (cp_2512 _) rfl rfl dX11_goesToTerm_59 hf (fun s7 hf => ?_)
      refine r_aload_n (x := some 39) (pc := 62) X dX11_goesToTerm_62 0 rfl ?_
      refine r_bipush (v := 7) (pc := 63) X dX11_goesToTerm_63 (by decide) ?_
      refine b_put (j := 9) (pc := 65) X ce_39 rfl inT11 tyX11 tyX11_ok nmX11 (by decide) w_1089 rfl (tyX11_ok 9 (by decide)) rfl rfl (Nat.le_of_ble_eq_true rfl) (cp_2505 _) rfl rfl dX11_goesToTerm_65 hf (fun s8 hf => ?_)
      refine r_aload_n (x := some 39) (pc := 68) X dX11_goesToTerm_68 0 rfl ?_
      refine r_get (j := 16) (pc := 69) X ce_39 rfl inT11 (by decide) w_1096 rfl dX11_goesToTerm_69 ?_
      refine r_iconst (v := -1) (pc := 72) X dX11_goesToTerm_72 (by decide) ?_
      refine b_icmp_eq (tgt := 80) (pc := 73) X dX11_goesToTerm_73 (by decide) hf (fun hf => ?_) (fun hf => ?_)
      · refine r_iconst (v := 0) (pc := 80) X dX11_goesToTerm_80 (by decide) ?_
        exact e_zret (pc := 81) X hr (by decide) hf (Nat.le_refl _) (Nat.le_refl _) dX11_goesToTerm_81
      · refine r_iconst (v := 1) (pc := 76) X dX11_goesToTerm_76 (by decide) ?_
        refine r_goto (tgt := 81) (pc := 77) X dX11_goesToTerm_77 (by decide) ?_
        exact e_zret (pc := 81) X hr (by decide) hf (Nat.le_refl _) (Nat.le_refl _) dX11_goesToTerm_81
/-! f_M_goesAfter -/
theorem dX11_goesAfter_0 : decode cX11_goesAfter 0 = .ok (.iload_n 1, 1) := by decide +kernel
theorem dX11_goesAfter_1 : decode cX11_goesAfter 1 = .ok (.bipush 38, 2) := by decide +kernel
theorem dX11_goesAfter_3 : decode cX11_goesAfter 3 = .ok (.if_icmp .eq 9, 3) := by decide +kernel
theorem dX11_goesAfter_6 : decode cX11_goesAfter 6 = .ok (.iload_n 1, 1) := by decide +kernel
theorem dX11_goesAfter_7 : decode cX11_goesAfter 7 = .ok (.bipush 124, 2) := by decide +kernel
theorem dX11_goesAfter_9 : decode cX11_goesAfter 9 = .ok (.if_icmp .ne 39, 3) := by decide +kernel
theorem dX11_goesAfter_12 : decode cX11_goesAfter 12 = .ok (.aload_n 0, 1) := by decide +kernel
theorem dX11_goesAfter_13 : decode cX11_goesAfter 13 = .ok (.iload_n 1, 1) := by decide +kernel
theorem dX11_goesAfter_14 : decode cX11_goesAfter 14 = .ok (.invokestatic 133, 3) := by decide +kernel
theorem dX11_goesAfter_17 : decode cX11_goesAfter 17 = .ok (.invokevirtual 181, 3) := by decide +kernel
theorem dX11_goesAfter_20 : decode cX11_goesAfter 20 = .ok (.aload_n 0, 1) := by decide +kernel
theorem dX11_goesAfter_21 : decode cX11_goesAfter 21 = .ok (.getfield 34, 3) := by decide +kernel
theorem dX11_goesAfter_24 : decode cX11_goesAfter 24 = .ok (.aload_n 0, 1) := by decide +kernel
theorem dX11_goesAfter_25 : decode cX11_goesAfter 25 = .ok (.getfield 127, 3) := by decide +kernel
theorem dX11_goesAfter_28 : decode cX11_goesAfter 28 = .ok (.iload_n 1, 1) := by decide +kernel
theorem dX11_goesAfter_29 : decode cX11_goesAfter 29 = .ok (.iastore, 1) := by decide +kernel
theorem dX11_goesAfter_30 : decode cX11_goesAfter 30 = .ok (.aload_n 0, 1) := by decide +kernel
theorem dX11_goesAfter_31 : decode cX11_goesAfter 31 = .ok (.dup, 1) := by decide +kernel
theorem dX11_goesAfter_32 : decode cX11_goesAfter 32 = .ok (.getfield 127, 3) := by decide +kernel
theorem dX11_goesAfter_35 : decode cX11_goesAfter 35 = .ok (.iconst 1, 1) := by decide +kernel
theorem dX11_goesAfter_36 : decode cX11_goesAfter 36 = .ok (.iadd, 1) := by decide +kernel
theorem dX11_goesAfter_37 : decode cX11_goesAfter 37 = .ok (.putfield 127, 3) := by decide +kernel
theorem dX11_goesAfter_40 : decode cX11_goesAfter 40 = .ok (.aload_n 0, 1) := by decide +kernel
theorem dX11_goesAfter_41 : decode cX11_goesAfter 41 = .ok (.bipush 6, 2) := by decide +kernel
theorem dX11_goesAfter_43 : decode cX11_goesAfter 43 = .ok (.putfield 120, 3) := by decide +kernel
theorem dX11_goesAfter_46 : decode cX11_goesAfter 46 = .ok (.iconst 1, 1) := by decide +kernel
theorem dX11_goesAfter_47 : decode cX11_goesAfter 47 = .ok (.ireturn, 1) := by decide +kernel
theorem dX11_goesAfter_48 : decode cX11_goesAfter 48 = .ok (.iload_n 1, 1) := by decide +kernel
theorem dX11_goesAfter_49 : decode cX11_goesAfter 49 = .ok (.bipush 41, 2) := by decide +kernel
theorem dX11_goesAfter_51 : decode cX11_goesAfter 51 = .ok (.if_icmp .eq 5, 3) := by decide +kernel
theorem dX11_goesAfter_54 : decode cX11_goesAfter 54 = .ok (.iconst 0, 1) := by decide +kernel
theorem dX11_goesAfter_55 : decode cX11_goesAfter 55 = .ok (.ireturn, 1) := by decide +kernel
theorem dX11_goesAfter_56 : decode cX11_goesAfter 56 = .ok (.aload_n 0, 1) := by decide +kernel
theorem dX11_goesAfter_57 : decode cX11_goesAfter 57 = .ok (.iconst 1, 1) := by decide +kernel
theorem dX11_goesAfter_58 : decode cX11_goesAfter 58 = .ok (.invokevirtual 181, 3) := by decide +kernel
theorem dX11_goesAfter_61 : decode cX11_goesAfter 61 = .ok (.aload_n 0, 1) := by decide +kernel
theorem dX11_goesAfter_62 : decode cX11_goesAfter 62 = .ok (.getfield 172, 3) := by decide +kernel
theorem dX11_goesAfter_65 : decode cX11_goesAfter 65 = .ok (.ifCond .ne 11, 3) := by decide +kernel
theorem dX11_goesAfter_68 : decode cX11_goesAfter 68 = .ok (.aload_n 0, 1) := by decide +kernel
theorem dX11_goesAfter_69 : decode cX11_goesAfter 69 = .ok (.iconst 1, 1) := by decide +kernel
theorem dX11_goesAfter_70 : decode cX11_goesAfter 70 = .ok (.invokevirtual 168, 3) := by decide +kernel
theorem dX11_goesAfter_73 : decode cX11_goesAfter 73 = .ok (.goto 27, 3) := by decide +kernel
theorem dX11_goesAfter_76 : decode cX11_goesAfter 76 = .ok (.aload_n 0, 1) := by decide +kernel
theorem dX11_goesAfter_77 : decode cX11_goesAfter 77 = .ok (.dup, 1) := by decide +kernel
theorem dX11_goesAfter_78 : decode cX11_goesAfter 78 = .ok (.getfield 127, 3) := by decide +kernel
theorem dX11_goesAfter_81 : decode cX11_goesAfter 81 = .ok (.iconst 1, 1) := by decide +kernel
theorem dX11_goesAfter_82 : decode cX11_goesAfter 82 = .ok (.isub, 1) := by decide +kernel
theorem dX11_goesAfter_83 : decode cX11_goesAfter 83 = .ok (.putfield 127, 3) := by decide +kernel
theorem dX11_goesAfter_86 : decode cX11_goesAfter 86 = .ok (.aload_n 0, 1) := by decide +kernel
theorem dX11_goesAfter_87 : decode cX11_goesAfter 87 = .ok (.dup, 1) := by decide +kernel
theorem dX11_goesAfter_88 : decode cX11_goesAfter 88 = .ok (.getfield 172, 3) := by decide +kernel
theorem dX11_goesAfter_91 : decode cX11_goesAfter 91 = .ok (.iconst 1, 1) := by decide +kernel
theorem dX11_goesAfter_92 : decode cX11_goesAfter 92 = .ok (.isub, 1) := by decide +kernel
theorem dX11_goesAfter_93 : decode cX11_goesAfter 93 = .ok (.putfield 172, 3) := by decide +kernel
theorem dX11_goesAfter_96 : decode cX11_goesAfter 96 = .ok (.aload_n 0, 1) := by decide +kernel
theorem dX11_goesAfter_97 : decode cX11_goesAfter 97 = .ok (.invokevirtual 184, 3) := by decide +kernel
theorem dX11_goesAfter_100 : decode cX11_goesAfter 100 = .ok (.iconst 1, 1) := by decide +kernel
theorem dX11_goesAfter_101 : decode cX11_goesAfter 101 = .ok (.ireturn, 1) := by decide +kernel
def f_M_goesAfter_b12 (F : Nat) (s : St) (l1 : Int32) : Option (Int32 × St) :=
  (f_M_askRank F s l1).bind fun x1 => ((f_M_putsAsked F x1.2 x1.1).bind fun x2 => ((ix 64 (gI x2 2517)).bind fun j3 => (lt (sA x2 48 j3 l1) fun s4 => (lt (sI s4 2517 ((gI s4 2517) + 1)) fun s5 => (lt (sI s5 2505 6) fun s6 => (some (1, s6)))))))
def f_M_goesAfter (F : Nat) (s : St) (p1 : Int32) : Option (Int32 × St) :=
  if p1 = 38 then
    (f_M_goesAfter_b12 F s p1)
  else
    (if p1 = 124 then
      (f_M_goesAfter_b12 F s p1)
    else
      (if p1 = 41 then
        ((f_M_putsAsked F s 1).bind fun x7 => (if (gI x7 2519) = 0 then
          ((f_M_endsAggregate F x7 1).bind fun x8 => (some (1, x8)))
        else
          (lt (sI x7 2517 ((gI x7 2517) - 1)) fun s9 => (lt (sI s9 2519 ((gI s9 2519) - 1)) fun s10 => ((f_M_endsTerm F s10).bind fun x11 => (some (1, x11)))))))
      else
        (some (0, s))))
set_option maxHeartbeats 1000000 in
theorem c_f_M_goesAfter_b12 {F : Nat} {Γ : Ga} {D : DD} {B : Nat} {r : Int32} {s' : St} (X : Cx Γ RX11 cX11_goesAfter 2 D B { frames := 3, cells := 0, slots := 0, locals := 65 }) (hr : (Gme Γ).sig.returnType = (some .boolean)) {s : St} {l1 : Int32} (hf : f_M_goesAfter_b12 F s l1 = some (r, s')) : V Γ D B true 2 (QM Γ D B true s' (some (.int r)) 0 0) 0 0 s 12 [(0, .ref (B + 39)), (1, .int l1)] [] := by
  unfold f_M_goesAfter_b12 at hf
  refine r_aload_n (x := some 39) (pc := 12) X dX11_goesAfter_12 0 rfl ?_
  refine r_iload_n (pc := 13) X dX11_goesAfter_13 1 rfl ?_
  refine bnd hf (fun x1 h1 hf => ?_)
  refine r_callSi (As := [.int l1]) (st := [.ref (B + 39)]) (pc := 14) X (c_f_M_askRank h1) rfl w_1344 w_1345 w_84 w_1346 hdS_X11_askRank (by decide) (by decide) (by decide) (Nat.le_of_ble_eq_true rfl) dX11_goesAfter_14 rfl ?_
  refine bnd hf (fun x2 h2 hf => ?_)
  refine r_callVv (As := [.int x1.1]) (st := []) (pc := 17) X (c_f_M_putsAsked h2) rfl w_1347 w_1349 w_51 w_84 w_1350 hdV_X11_putsAsked (Rc.s rfl ce_39) (by decide) (by decide) (by decide) (Nat.le_of_ble_eq_true rfl) dX11_goesAfter_17 rfl ?_
  refine r_aload_n (x := some 39) (pc := 20) X dX11_goesAfter_20 0 rfl ?_
  refine r_get (j := 20) (pc := 21) X ce_39 rfl inT11 (by decide) w_1100 rfl dX11_goesAfter_21 ?_
  refine r_aload_n (x := some 39) (pc := 24) X dX11_goesAfter_24 0 rfl ?_
  refine r_get (j := 21) (pc := 25) X ce_39 rfl inT11 (by decide) w_1101 rfl dX11_goesAfter_25 ?_
  refine r_iload_n (pc := 28) X dX11_goesAfter_28 1 rfl ?_
  refine b_iast (pc := 29) X ce_48 (fun _ => ca_48 _ _) dX11_goesAfter_29 hf (fun j3 s4 hf => ?_)
  refine r_aload_n (x := some 39) (pc := 30) X dX11_goesAfter_30 0 rfl ?_
  refine r_dup (pc := 31) X dX11_goesAfter_31 rfl ?_
  refine r_get (j := 21) (pc := 32) X ce_39 rfl inT11 (by decide) w_1101 rfl dX11_goesAfter_32 ?_
  refine r_iconst (v := 1) (pc := 35) X dX11_goesAfter_35 (by decide) ?_
  refine r_iadd (pc := 36) X dX11_goesAfter_36 ?_
  refine b_put (j := 21) (pc := 37) X ce_39 rfl inT11 tyX11 tyX11_ok nmX11 (by decide) w_1101 rfl (tyX11_ok 21 (by decide)) rfl rfl (Nat.le_of_ble_eq_true rfl) (cp_2517 _) rfl rfl dX11_goesAfter_37 hf (fun s5 hf => ?_)
  refine r_aload_n (x := some 39) (pc := 40) X dX11_goesAfter_40 0 rfl ?_
  refine r_bipush (v := 6) (pc := 41) X dX11_goesAfter_41 (by decide) ?_
  refine b_put (j := 9) (pc := 43) X ce_39 rfl inT11 tyX11 tyX11_ok nmX11 (by decide) w_1089 rfl (tyX11_ok 9 (by decide)) rfl rfl (Nat.le_of_ble_eq_true rfl) (cp_2505 _) rfl rfl dX11_goesAfter_43 hf (fun s6 hf => ?_)
  refine r_iconst (v := 1) (pc := 46) X dX11_goesAfter_46 (by decide) ?_
  exact e_zret (pc := 47) X hr (by decide) hf (Nat.le_refl _) (Nat.le_refl _) dX11_goesAfter_47
set_option maxHeartbeats 1000000 in
theorem c_f_M_goesAfter {F : Nat} {s : St} {p1 : Int32} {r : Int32} {s' : St} (hf : f_M_goesAfter F s p1 = some (r, s')) : CC true yX11_goesAfter (Cond.code yX11_goesAfter cX11_goesAfter 2 (some .boolean)) 3 65 (fun B => [.ref (B + 39), .int p1]) s (fun B => (some (.int r))) s' 0 0 := by
  refine CC.of (fun B => [(0, .ref (B + 39)), (1, .int p1)]) (by decide +kernel) (fun _ => rfl) (fun _ => (by simp [lg_sl, rfB_cat, catI, catL, catR])) (fun Γ D B X hr hin => ?_)
  have X : Cx Γ RX11 cX11_goesAfter 2 D B { frames := 3, cells := 0, slots := 0, locals := 65 } := X
  unfold f_M_goesAfter at hf
  refine r_iload_n (pc := 0) X dX11_goesAfter_0 1 rfl ?_
  refine r_bipush (v := 38) (pc := 1) X dX11_goesAfter_1 (by decide) ?_
  refine b_icmp_eq (tgt := 12) (pc := 3) X dX11_goesAfter_3 (by decide) hf (fun hf => ?_) (fun hf => ?_)
  · exact c_f_M_goesAfter_b12 X hr hf
  · refine r_iload_n (pc := 6) X dX11_goesAfter_6 1 rfl ?_
    refine r_bipush (v := 124) (pc := 7) X dX11_goesAfter_7 (by decide) ?_
    refine b_icmp_ne (tgt := 48) (pc := 9) X dX11_goesAfter_9 (by decide) hf (fun hf => ?_) (fun hf => ?_)
    · exact c_f_M_goesAfter_b12 X hr hf
    · refine r_iload_n (pc := 48) X dX11_goesAfter_48 1 rfl ?_
      refine r_bipush (v := 41) (pc := 49) X dX11_goesAfter_49 (by decide) ?_
      refine b_icmp_eq (tgt := 56) (pc := 51) X dX11_goesAfter_51 (by decide) hf (fun hf => ?_) (fun hf => ?_)
      · refine r_aload_n (x := some 39) (pc := 56) X dX11_goesAfter_56 0 rfl ?_
        refine r_iconst (v := 1) (pc := 57) X dX11_goesAfter_57 (by decide) ?_
        refine bnd hf (fun x7 h7 hf => ?_)
        refine r_callVv (As := [.int 1]) (st := []) (pc := 58) X (c_f_M_putsAsked h7) rfl w_1347 w_1349 w_51 w_84 w_1350 hdV_X11_putsAsked (Rc.s rfl ce_39) (by decide) (by decide) (by decide) (Nat.le_of_ble_eq_true rfl) dX11_goesAfter_58 rfl ?_
        refine r_aload_n (x := some 39) (pc := 61) X dX11_goesAfter_61 0 rfl ?_
        refine r_get (j := 23) (pc := 62) X ce_39 rfl inT11 (by decide) w_1103 rfl dX11_goesAfter_62 ?_
        refine b_if_ne (tgt := 76) (pc := 65) X dX11_goesAfter_65 (by decide) hf (fun hf => ?_) (fun hf => ?_)
        · refine r_aload_n (x := some 39) (pc := 68) X dX11_goesAfter_68 0 rfl ?_
          refine r_iconst (v := 1) (pc := 69) X dX11_goesAfter_69 (by decide) ?_
          refine bnd hf (fun x8 h8 hf => ?_)
          refine r_callVv (As := [.int 1]) (st := []) (pc := 70) X (c_f_M_endsAggregate h8) rfl w_1332 w_1334 w_48 w_84 w_1335 hdV_X11_endsAggregate (Rc.s rfl ce_39) (by decide) (by decide) (by decide) (Nat.le_of_ble_eq_true rfl) dX11_goesAfter_70 rfl ?_
          refine r_goto (tgt := 100) (pc := 73) X dX11_goesAfter_73 (by decide) ?_
          refine r_iconst (v := 1) (pc := 100) X dX11_goesAfter_100 (by decide) ?_
          exact e_zret (pc := 101) X hr (by decide) hf (Nat.le_refl _) (Nat.le_refl _) dX11_goesAfter_101
        · refine r_aload_n (x := some 39) (pc := 76) X dX11_goesAfter_76 0 rfl ?_
          refine r_dup (pc := 77) X dX11_goesAfter_77 rfl ?_
          refine r_get (j := 21) (pc := 78) X ce_39 rfl inT11 (by decide) w_1101 rfl dX11_goesAfter_78 ?_
          refine r_iconst (v := 1) (pc := 81) X dX11_goesAfter_81 (by decide) ?_
          refine r_isub (pc := 82) X dX11_goesAfter_82 ?_
          refine b_put (j := 21) (pc := 83) X ce_39 rfl inT11 tyX11 tyX11_ok nmX11 (by decide) w_1101 rfl (tyX11_ok 21 (by decide)) rfl rfl (Nat.le_of_ble_eq_true rfl) (cp_2517 _) rfl rfl dX11_goesAfter_83 hf (fun s9 hf => ?_)
          refine r_aload_n (x := some 39) (pc := 86) X dX11_goesAfter_86 0 rfl ?_
          refine r_dup (pc := 87) X dX11_goesAfter_87 rfl ?_
          refine r_get (j := 23) (pc := 88) X ce_39 rfl inT11 (by decide) w_1103 rfl dX11_goesAfter_88 ?_
          refine r_iconst (v := 1) (pc := 91) X dX11_goesAfter_91 (by decide) ?_
          refine r_isub (pc := 92) X dX11_goesAfter_92 ?_
          refine b_put (j := 23) (pc := 93) X ce_39 rfl inT11 tyX11 tyX11_ok nmX11 (by decide) w_1103 rfl (tyX11_ok 23 (by decide)) rfl rfl (Nat.le_of_ble_eq_true rfl) (cp_2519 _) rfl rfl dX11_goesAfter_93 hf (fun s10 hf => ?_)
          refine r_aload_n (x := some 39) (pc := 96) X dX11_goesAfter_96 0 rfl ?_
          refine bnd hf (fun x11 h11 hf => ?_)
          refine r_callVv (As := []) (st := []) (pc := 97) X (c_f_M_endsTerm h11) rfl w_1303 w_1305 w_43 w_84 w_1306 hdV_X11_endsTerm (Rc.s rfl ce_39) (by decide) (by decide) (by decide) (Nat.le_of_ble_eq_true rfl) dX11_goesAfter_97 rfl ?_
          refine r_iconst (v := 1) (pc := 100) X dX11_goesAfter_100 (by decide) ?_
          exact e_zret (pc := 101) X hr (by decide) hf (Nat.le_refl _) (Nat.le_refl _) dX11_goesAfter_101
      · refine r_iconst (v := 0) (pc := 54) X dX11_goesAfter_54 (by decide) ?_
        exact e_zret (pc := 55) X hr (by decide) hf (Nat.le_refl _) (Nat.le_refl _) dX11_goesAfter_55
/-! f_M_goesDigit -/
theorem dX11_goesDigit_0 : decode cX11_goesDigit 0 = .ok (.aload_n 0, 1) := by decide +kernel
theorem dX11_goesDigit_1 : decode cX11_goesDigit 1 = .ok (.iload_n 1, 1) := by decide +kernel
theorem dX11_goesDigit_2 : decode cX11_goesDigit 2 = .ok (.bipush 48, 2) := by decide +kernel
theorem dX11_goesDigit_4 : decode cX11_goesDigit 4 = .ok (.isub, 1) := by decide +kernel
theorem dX11_goesDigit_5 : decode cX11_goesDigit 5 = .ok (.putfield 152, 3) := by decide +kernel
theorem dX11_goesDigit_8 : decode cX11_goesDigit 8 = .ok (.aload_n 0, 1) := by decide +kernel
theorem dX11_goesDigit_9 : decode cX11_goesDigit 9 = .ok (.iconst 1, 1) := by decide +kernel
theorem dX11_goesDigit_10 : decode cX11_goesDigit 10 = .ok (.putfield 155, 3) := by decide +kernel
theorem dX11_goesDigit_13 : decode cX11_goesDigit 13 = .ok (.aload_n 0, 1) := by decide +kernel
theorem dX11_goesDigit_14 : decode cX11_goesDigit 14 = .ok (.bipush 10, 2) := by decide +kernel
theorem dX11_goesDigit_16 : decode cX11_goesDigit 16 = .ok (.putfield 120, 3) := by decide +kernel
theorem dX11_goesDigit_19 : decode cX11_goesDigit 19 = .ok (.iload_n 1, 1) := by decide +kernel
theorem dX11_goesDigit_20 : decode cX11_goesDigit 20 = .ok (.invokestatic 148, 3) := by decide +kernel
theorem dX11_goesDigit_23 : decode cX11_goesDigit 23 = .ok (.ireturn, 1) := by decide +kernel
def f_M_goesDigit (F : Nat) (s : St) (p1 : Int32) : Option (Int32 × St) :=
  lt (sI s 2507 (p1 - 48)) fun s1 => (lt (sI s1 2506 1) fun s2 => (lt (sI s2 2505 10) fun s3 => ((f_M_isFigure F s3 p1).bind fun x4 => (if x4.1 = 0 ∨ x4.1 = 1 then (some (x4.1, x4.2)) else none))))
set_option maxHeartbeats 1000000 in
theorem c_f_M_goesDigit {F : Nat} {s : St} {p1 : Int32} {r : Int32} {s' : St} (hf : f_M_goesDigit F s p1 = some (r, s')) : CC true yX11_goesDigit (Cond.code yX11_goesDigit cX11_goesDigit 2 (some .boolean)) 2 42 (fun B => [.ref (B + 39), .int p1]) s (fun B => (some (.int r))) s' 0 0 := by
  refine CC.of (fun B => [(0, .ref (B + 39)), (1, .int p1)]) (by decide +kernel) (fun _ => rfl) (fun _ => (by simp [lg_sl, rfB_cat, catI, catL, catR])) (fun Γ D B X hr hin => ?_)
  have X : Cx Γ RX11 cX11_goesDigit 2 D B { frames := 2, cells := 0, slots := 0, locals := 42 } := X
  unfold f_M_goesDigit at hf
  refine r_aload_n (x := some 39) (pc := 0) X dX11_goesDigit_0 0 rfl ?_
  refine r_iload_n (pc := 1) X dX11_goesDigit_1 1 rfl ?_
  refine r_bipush (v := 48) (pc := 2) X dX11_goesDigit_2 (by decide) ?_
  refine r_isub (pc := 4) X dX11_goesDigit_4 ?_
  refine b_put (j := 11) (pc := 5) X ce_39 rfl inT11 tyX11 tyX11_ok nmX11 (by decide) w_1091 rfl (tyX11_ok 11 (by decide)) rfl rfl (Nat.le_of_ble_eq_true rfl) (cp_2507 _) rfl rfl dX11_goesDigit_5 hf (fun s1 hf => ?_)
  refine r_aload_n (x := some 39) (pc := 8) X dX11_goesDigit_8 0 rfl ?_
  refine r_iconst (v := 1) (pc := 9) X dX11_goesDigit_9 (by decide) ?_
  refine b_put (j := 10) (pc := 10) X ce_39 rfl inT11 tyX11 tyX11_ok nmX11 (by decide) w_1090 rfl (tyX11_ok 10 (by decide)) rfl rfl (Nat.le_of_ble_eq_true rfl) (cp_2506 _) rfl rfl dX11_goesDigit_10 hf (fun s2 hf => ?_)
  refine r_aload_n (x := some 39) (pc := 13) X dX11_goesDigit_13 0 rfl ?_
  refine r_bipush (v := 10) (pc := 14) X dX11_goesDigit_14 (by decide) ?_
  refine b_put (j := 9) (pc := 16) X ce_39 rfl inT11 tyX11 tyX11_ok nmX11 (by decide) w_1089 rfl (tyX11_ok 9 (by decide)) rfl rfl (Nat.le_of_ble_eq_true rfl) (cp_2505 _) rfl rfl dX11_goesDigit_16 hf (fun s3 hf => ?_)
  refine r_iload_n (pc := 19) X dX11_goesDigit_19 1 rfl ?_
  refine bnd hf (fun x4 h4 hf => ?_)
  refine r_callSi (As := [.int p1]) (st := []) (pc := 20) X (c_f_M_isFigure h4) rfl w_1284 w_1285 w_84 w_1286 hdS_X11_isFigure (by decide) (by decide) (by decide) (Nat.le_of_ble_eq_true rfl) dX11_goesDigit_20 rfl ?_
  refine ifo hf (fun hx hf => ?_)
  exact e_zret (pc := 23) X hr hx hf (Nat.le_refl _) (Nat.le_refl _) dX11_goesDigit_23
/-! f_M_goesOn -/
theorem dX11_goesOn_0 : decode cX11_goesOn 0 = .ok (.iload_n 1, 1) := by decide +kernel
theorem dX11_goesOn_1 : decode cX11_goesOn 1 = .ok (.invokestatic 148, 3) := by decide +kernel
theorem dX11_goesOn_4 : decode cX11_goesOn 4 = .ok (.ifCond .eq 11, 3) := by decide +kernel
theorem dX11_goesOn_7 : decode cX11_goesOn 7 = .ok (.aload_n 0, 1) := by decide +kernel
theorem dX11_goesOn_8 : decode cX11_goesOn 8 = .ok (.getfield 155, 3) := by decide +kernel
theorem dX11_goesOn_11 : decode cX11_goesOn 11 = .ok (.iconst 4, 1) := by decide +kernel
theorem dX11_goesOn_12 : decode cX11_goesOn 12 = .ok (.if_icmp .ne 5, 3) := by decide +kernel
theorem dX11_goesOn_15 : decode cX11_goesOn 15 = .ok (.iconst 0, 1) := by decide +kernel
theorem dX11_goesOn_16 : decode cX11_goesOn 16 = .ok (.ireturn, 1) := by decide +kernel
theorem dX11_goesOn_17 : decode cX11_goesOn 17 = .ok (.aload_n 0, 1) := by decide +kernel
theorem dX11_goesOn_18 : decode cX11_goesOn 18 = .ok (.bipush 10, 2) := by decide +kernel
theorem dX11_goesOn_20 : decode cX11_goesOn 20 = .ok (.aload_n 0, 1) := by decide +kernel
theorem dX11_goesOn_21 : decode cX11_goesOn 21 = .ok (.getfield 152, 3) := by decide +kernel
theorem dX11_goesOn_24 : decode cX11_goesOn 24 = .ok (.imul, 1) := by decide +kernel
theorem dX11_goesOn_25 : decode cX11_goesOn 25 = .ok (.iload_n 1, 1) := by decide +kernel
theorem dX11_goesOn_26 : decode cX11_goesOn 26 = .ok (.iadd, 1) := by decide +kernel
theorem dX11_goesOn_27 : decode cX11_goesOn 27 = .ok (.bipush 48, 2) := by decide +kernel
theorem dX11_goesOn_29 : decode cX11_goesOn 29 = .ok (.isub, 1) := by decide +kernel
theorem dX11_goesOn_30 : decode cX11_goesOn 30 = .ok (.putfield 152, 3) := by decide +kernel
theorem dX11_goesOn_33 : decode cX11_goesOn 33 = .ok (.aload_n 0, 1) := by decide +kernel
theorem dX11_goesOn_34 : decode cX11_goesOn 34 = .ok (.dup, 1) := by decide +kernel
theorem dX11_goesOn_35 : decode cX11_goesOn 35 = .ok (.getfield 155, 3) := by decide +kernel
theorem dX11_goesOn_38 : decode cX11_goesOn 38 = .ok (.iconst 1, 1) := by decide +kernel
theorem dX11_goesOn_39 : decode cX11_goesOn 39 = .ok (.iadd, 1) := by decide +kernel
theorem dX11_goesOn_40 : decode cX11_goesOn 40 = .ok (.putfield 155, 3) := by decide +kernel
theorem dX11_goesOn_43 : decode cX11_goesOn 43 = .ok (.iconst 1, 1) := by decide +kernel
theorem dX11_goesOn_44 : decode cX11_goesOn 44 = .ok (.ireturn, 1) := by decide +kernel
def f_M_goesOn (F : Nat) (s : St) (p1 : Int32) : Option (Int32 × St) :=
  (f_M_isFigure F s p1).bind fun x1 => (if x1.1 = 0 then
    (some (0, x1.2))
  else
    (if (gI x1.2 2506) = 4 then
      (some (0, x1.2))
    else
      (lt (sI x1.2 2507 ((((10 : Int32) * (gI x1.2 2507)) + p1) - 48)) fun s2 => (lt (sI s2 2506 ((gI s2 2506) + 1)) fun s3 => (some (1, s3))))))
set_option maxHeartbeats 1000000 in
theorem c_f_M_goesOn {F : Nat} {s : St} {p1 : Int32} {r : Int32} {s' : St} (hf : f_M_goesOn F s p1 = some (r, s')) : CC true yX11_goesOn (Cond.code yX11_goesOn cX11_goesOn 2 (some .boolean)) 2 42 (fun B => [.ref (B + 39), .int p1]) s (fun B => (some (.int r))) s' 0 0 := by
  refine CC.of (fun B => [(0, .ref (B + 39)), (1, .int p1)]) (by decide +kernel) (fun _ => rfl) (fun _ => (by simp [lg_sl, rfB_cat, catI, catL, catR])) (fun Γ D B X hr hin => ?_)
  have X : Cx Γ RX11 cX11_goesOn 2 D B { frames := 2, cells := 0, slots := 0, locals := 42 } := X
  unfold f_M_goesOn at hf
  refine r_iload_n (pc := 0) X dX11_goesOn_0 1 rfl ?_
  refine bnd hf (fun x1 h1 hf => ?_)
  refine r_callSi (As := [.int p1]) (st := []) (pc := 1) X (c_f_M_isFigure h1) rfl w_1284 w_1285 w_84 w_1286 hdS_X11_isFigure (by decide) (by decide) (by decide) (Nat.le_of_ble_eq_true rfl) dX11_goesOn_1 rfl ?_
  refine b_if_eq (tgt := 15) (pc := 4) X dX11_goesOn_4 (by decide) hf (fun hf => ?_) (fun hf => ?_)
  · refine r_iconst (v := 0) (pc := 15) X dX11_goesOn_15 (by decide) ?_
    exact e_zret (pc := 16) X hr (by decide) hf (Nat.le_refl _) (Nat.le_refl _) dX11_goesOn_16
  · refine r_aload_n (x := some 39) (pc := 7) X dX11_goesOn_7 0 rfl ?_
    refine r_get (j := 10) (pc := 8) X ce_39 rfl inT11 (by decide) w_1090 rfl dX11_goesOn_8 ?_
    refine r_iconst (v := 4) (pc := 11) X dX11_goesOn_11 (by decide) ?_
    refine b_icmp_ne (tgt := 17) (pc := 12) X dX11_goesOn_12 (by decide) hf (fun hf => ?_) (fun hf => ?_)
    · refine r_iconst (v := 0) (pc := 15) X dX11_goesOn_15 (by decide) ?_
      exact e_zret (pc := 16) X hr (by decide) hf (Nat.le_refl _) (Nat.le_refl _) dX11_goesOn_16
    · refine r_aload_n (x := some 39) (pc := 17) X dX11_goesOn_17 0 rfl ?_
      refine r_bipush (v := 10) (pc := 18) X dX11_goesOn_18 (by decide) ?_
      refine r_aload_n (x := some 39) (pc := 20) X dX11_goesOn_20 0 rfl ?_
      refine r_get (j := 11) (pc := 21) X ce_39 rfl inT11 (by decide) w_1091 rfl dX11_goesOn_21 ?_
      refine r_imul (pc := 24) X dX11_goesOn_24 ?_
      refine r_iload_n (pc := 25) X dX11_goesOn_25 1 rfl ?_
      refine r_iadd (pc := 26) X dX11_goesOn_26 ?_
      refine r_bipush (v := 48) (pc := 27) X dX11_goesOn_27 (by decide) ?_
      refine r_isub (pc := 29) X dX11_goesOn_29 ?_
      refine b_put (j := 11) (pc := 30) X ce_39 rfl inT11 tyX11 tyX11_ok nmX11 (by decide) w_1091 rfl (tyX11_ok 11 (by decide)) rfl rfl (Nat.le_of_ble_eq_true rfl) (cp_2507 _) rfl rfl dX11_goesOn_30 hf (fun s2 hf => ?_)
      refine r_aload_n (x := some 39) (pc := 33) X dX11_goesOn_33 0 rfl ?_
      refine r_dup (pc := 34) X dX11_goesOn_34 rfl ?_
      refine r_get (j := 10) (pc := 35) X ce_39 rfl inT11 (by decide) w_1090 rfl dX11_goesOn_35 ?_
      refine r_iconst (v := 1) (pc := 38) X dX11_goesOn_38 (by decide) ?_
      refine r_iadd (pc := 39) X dX11_goesOn_39 ?_
      refine b_put (j := 10) (pc := 40) X ce_39 rfl inT11 tyX11 tyX11_ok nmX11 (by decide) w_1090 rfl (tyX11_ok 10 (by decide)) rfl rfl (Nat.le_of_ble_eq_true rfl) (cp_2506 _) rfl rfl dX11_goesOn_40 hf (fun s3 hf => ?_)
      refine r_iconst (v := 1) (pc := 43) X dX11_goesOn_43 (by decide) ?_
      exact e_zret (pc := 44) X hr (by decide) hf (Nat.le_refl _) (Nat.le_refl _) dX11_goesOn_44
/-! f_M_endsNumber -/
theorem dX11_endsNumber_0 : decode cX11_endsNumber 0 = .ok (.aload_n 0, 1) := by decide +kernel
theorem dX11_endsNumber_1 : decode cX11_endsNumber 1 = .ok (.getfield 120, 3) := by decide +kernel
theorem dX11_endsNumber_4 : decode cX11_endsNumber 4 = .ok (.iconst 1, 1) := by decide +kernel
theorem dX11_endsNumber_5 : decode cX11_endsNumber 5 = .ok (.if_icmp .ne 19, 3) := by decide +kernel
theorem dX11_endsNumber_8 : decode cX11_endsNumber 8 = .ok (.aload_n 0, 1) := by decide +kernel
theorem dX11_endsNumber_9 : decode cX11_endsNumber 9 = .ok (.iconst 1, 1) := by decide +kernel
theorem dX11_endsNumber_10 : decode cX11_endsNumber 10 = .ok (.aload_n 0, 1) := by decide +kernel
theorem dX11_endsNumber_11 : decode cX11_endsNumber 11 = .ok (.getfield 152, 3) := by decide +kernel
theorem dX11_endsNumber_14 : decode cX11_endsNumber 14 = .ok (.invokevirtual 116, 3) := by decide +kernel
theorem dX11_endsNumber_17 : decode cX11_endsNumber 17 = .ok (.aload_n 0, 1) := by decide +kernel
theorem dX11_endsNumber_18 : decode cX11_endsNumber 18 = .ok (.invokevirtual 145, 3) := by decide +kernel
theorem dX11_endsNumber_21 : decode cX11_endsNumber 21 = .ok (.goto 53, 3) := by decide +kernel
theorem dX11_endsNumber_24 : decode cX11_endsNumber 24 = .ok (.aload_n 0, 1) := by decide +kernel
theorem dX11_endsNumber_25 : decode cX11_endsNumber 25 = .ok (.iconst 4, 1) := by decide +kernel
theorem dX11_endsNumber_26 : decode cX11_endsNumber 26 = .ok (.aload_n 0, 1) := by decide +kernel
theorem dX11_endsNumber_27 : decode cX11_endsNumber 27 = .ok (.getfield 178, 3) := by decide +kernel
theorem dX11_endsNumber_30 : decode cX11_endsNumber 30 = .ok (.aload_n 0, 1) := by decide +kernel
theorem dX11_endsNumber_31 : decode cX11_endsNumber 31 = .ok (.getfield 187, 3) := by decide +kernel
theorem dX11_endsNumber_34 : decode cX11_endsNumber 34 = .ok (.iconst 2, 1) := by decide +kernel
theorem dX11_endsNumber_35 : decode cX11_endsNumber 35 = .ok (.ishl, 1) := by decide +kernel
theorem dX11_endsNumber_36 : decode cX11_endsNumber 36 = .ok (.ior, 1) := by decide +kernel
theorem dX11_endsNumber_37 : decode cX11_endsNumber 37 = .ok (.aload_n 0, 1) := by decide +kernel
theorem dX11_endsNumber_38 : decode cX11_endsNumber 38 = .ok (.getfield 190, 3) := by decide +kernel
theorem dX11_endsNumber_41 : decode cX11_endsNumber 41 = .ok (.ifCond .eq 14, 3) := by decide +kernel
theorem dX11_endsNumber_44 : decode cX11_endsNumber 44 = .ok (.sipush 10000, 3) := by decide +kernel
theorem dX11_endsNumber_47 : decode cX11_endsNumber 47 = .ok (.aload_n 0, 1) := by decide +kernel
theorem dX11_endsNumber_48 : decode cX11_endsNumber 48 = .ok (.getfield 152, 3) := by decide +kernel
theorem dX11_endsNumber_51 : decode cX11_endsNumber 51 = .ok (.isub, 1) := by decide +kernel
theorem dX11_endsNumber_52 : decode cX11_endsNumber 52 = .ok (.goto 11, 3) := by decide +kernel
theorem dX11_endsNumber_55 : decode cX11_endsNumber 55 = .ok (.sipush 10000, 3) := by decide +kernel
theorem dX11_endsNumber_58 : decode cX11_endsNumber 58 = .ok (.aload_n 0, 1) := by decide +kernel
theorem dX11_endsNumber_59 : decode cX11_endsNumber 59 = .ok (.getfield 152, 3) := by decide +kernel
theorem dX11_endsNumber_62 : decode cX11_endsNumber 62 = .ok (.iadd, 1) := by decide +kernel
theorem dX11_endsNumber_63 : decode cX11_endsNumber 63 = .ok (.bipush 10, 2) := by decide +kernel
theorem dX11_endsNumber_65 : decode cX11_endsNumber 65 = .ok (.ishl, 1) := by decide +kernel
theorem dX11_endsNumber_66 : decode cX11_endsNumber 66 = .ok (.ior, 1) := by decide +kernel
theorem dX11_endsNumber_67 : decode cX11_endsNumber 67 = .ok (.invokevirtual 130, 3) := by decide +kernel
theorem dX11_endsNumber_70 : decode cX11_endsNumber 70 = .ok (.aload_n 0, 1) := by decide +kernel
theorem dX11_endsNumber_71 : decode cX11_endsNumber 71 = .ok (.invokevirtual 184, 3) := by decide +kernel
theorem dX11_endsNumber_74 : decode cX11_endsNumber 74 = .ok (.return_, 1) := by decide +kernel
def f_M_endsNumber (F : Nat) (s : St)  : Option (St) :=
  if (gI s 2505) = 1 then
    ((f_M_puts F s 1 (gI s 2507)).bind fun x1 => ((f_M_endsUnit F x1).bind fun x2 => (some x2)))
  else
    (if (gI s 2508) = 0 then
      ((f_M_putsAsk F s 4 (((gI s 2512) ||| ((gI s 2513) <<< ((2 : Int32) &&& 31))) ||| (((10000 : Int32) + (gI s 2507)) <<< ((10 : Int32) &&& 31)))).bind fun x3 => ((f_M_endsTerm F x3).bind fun x4 => (some x4)))
    else
      ((f_M_putsAsk F s 4 (((gI s 2512) ||| ((gI s 2513) <<< ((2 : Int32) &&& 31))) ||| (((10000 : Int32) - (gI s 2507)) <<< ((10 : Int32) &&& 31)))).bind fun x5 => ((f_M_endsTerm F x5).bind fun x6 => (some x6))))
set_option maxHeartbeats 1000000 in
theorem c_f_M_endsNumber {F : Nat} {s : St}  {s' : St} (hf : f_M_endsNumber F s  = some s') : CC true yX11_endsNumber (Cond.code yX11_endsNumber cX11_endsNumber 1 none) 2 43 (fun B => [.ref (B + 39)]) s (fun B => none) s' 0 0 := by
  refine CC.of (fun B => [(0, .ref (B + 39))]) (by decide +kernel) (fun _ => rfl) (fun _ => (by simp [lg_sl, rfB_cat, catI, catL, catR])) (fun Γ D B X hr hin => ?_)
  have X : Cx Γ RX11 cX11_endsNumber 1 D B { frames := 2, cells := 0, slots := 0, locals := 43 } := X
  unfold f_M_endsNumber at hf
  refine r_aload_n (x := some 39) (pc := 0) X dX11_endsNumber_0 0 rfl ?_
  refine r_get (j := 9) (pc := 1) X ce_39 rfl inT11 (by decide) w_1089 rfl dX11_endsNumber_1 ?_
  refine r_iconst (v := 1) (pc := 4) X dX11_endsNumber_4 (by decide) ?_
  refine b_icmp_ne (tgt := 24) (pc := 5) X dX11_endsNumber_5 (by decide) hf (fun hf => ?_) (fun hf => ?_)
  · refine r_aload_n (x := some 39) (pc := 8) X dX11_endsNumber_8 0 rfl ?_
    refine r_iconst (v := 1) (pc := 9) X dX11_endsNumber_9 (by decide) ?_
    refine r_aload_n (x := some 39) (pc := 10) X dX11_endsNumber_10 0 rfl ?_
    refine r_get (j := 11) (pc := 11) X ce_39 rfl inT11 (by decide) w_1091 rfl dX11_endsNumber_11 ?_
    refine bnd hf (fun x1 h1 hf => ?_)
    refine r_callVv (As := [.int 1, .int (gI s 2507)]) (st := []) (pc := 14) X (c_f_M_puts h1) rfl w_1291 w_1293 w_40 w_84 w_1294 hdV_X11_puts (Rc.s rfl ce_39) (by decide) (by decide) (by decide) (Nat.le_of_ble_eq_true rfl) dX11_endsNumber_14 rfl ?_
    refine r_aload_n (x := some 39) (pc := 17) X dX11_endsNumber_17 0 rfl ?_
    refine bnd hf (fun x2 h2 hf => ?_)
    refine r_callVv (As := []) (st := []) (pc := 18) X (c_f_M_endsUnit h2) rfl w_1295 w_1297 w_41 w_84 w_1298 hdV_X11_endsUnit (Rc.s rfl ce_39) (by decide) (by decide) (by decide) (Nat.le_of_ble_eq_true rfl) dX11_endsNumber_18 rfl ?_
    refine r_goto (tgt := 74) (pc := 21) X dX11_endsNumber_21 (by decide) ?_
    exact e_vret (pc := 74) X hr hf (Nat.le_refl _) (Nat.le_refl _) dX11_endsNumber_74
  · refine r_aload_n (x := some 39) (pc := 24) X dX11_endsNumber_24 0 rfl ?_
    refine r_iconst (v := 4) (pc := 25) X dX11_endsNumber_25 (by decide) ?_
    refine r_aload_n (x := some 39) (pc := 26) X dX11_endsNumber_26 0 rfl ?_
    refine r_get (j := 16) (pc := 27) X ce_39 rfl inT11 (by decide) w_1096 rfl dX11_endsNumber_27 ?_
    refine r_aload_n (x := some 39) (pc := 30) X dX11_endsNumber_30 0 rfl ?_
    refine r_get (j := 17) (pc := 31) X ce_39 rfl inT11 (by decide) w_1097 rfl dX11_endsNumber_31 ?_
    refine r_iconst (v := 2) (pc := 34) X dX11_endsNumber_34 (by decide) ?_
    refine r_ishl (pc := 35) X dX11_endsNumber_35 ?_
    refine r_ior (pc := 36) X dX11_endsNumber_36 ?_
    refine r_aload_n (x := some 39) (pc := 37) X dX11_endsNumber_37 0 rfl ?_
    refine r_get (j := 12) (pc := 38) X ce_39 rfl inT11 (by decide) w_1092 rfl dX11_endsNumber_38 ?_
    refine b_if_eq (tgt := 55) (pc := 41) X dX11_endsNumber_41 (by decide) hf (fun hf => ?_) (fun hf => ?_)
    · refine r_sipush (v := 10000) (pc := 55) X dX11_endsNumber_55 (by decide) ?_
      refine r_aload_n (x := some 39) (pc := 58) X dX11_endsNumber_58 0 rfl ?_
      refine r_get (j := 11) (pc := 59) X ce_39 rfl inT11 (by decide) w_1091 rfl dX11_endsNumber_59 ?_
      refine r_iadd (pc := 62) X dX11_endsNumber_62 ?_
      refine r_bipush (v := 10) (pc := 63) X dX11_endsNumber_63 (by decide) ?_
      refine r_ishl (pc := 65) X dX11_endsNumber_65 ?_
      refine r_ior (pc := 66) X dX11_endsNumber_66 ?_
      refine bnd hf (fun x3 h3 hf => ?_)
      refine r_callVv (As := [.int 4, .int (((gI s 2512) ||| ((gI s 2513) <<< ((2 : Int32) &&& 31))) ||| (((10000 : Int32) + (gI s 2507)) <<< ((10 : Int32) &&& 31)))]) (st := []) (pc := 67) X (c_f_M_putsAsk h3) rfl w_1299 w_1301 w_42 w_84 w_1302 hdV_X11_putsAsk (Rc.s rfl ce_39) (by decide) (by decide) (by decide) (Nat.le_of_ble_eq_true rfl) dX11_endsNumber_67 rfl ?_
      refine r_aload_n (x := some 39) (pc := 70) X dX11_endsNumber_70 0 rfl ?_
      refine bnd hf (fun x4 h4 hf => ?_)
      refine r_callVv (As := []) (st := []) (pc := 71) X (c_f_M_endsTerm h4) rfl w_1303 w_1305 w_43 w_84 w_1306 hdV_X11_endsTerm (Rc.s rfl ce_39) (by decide) (by decide) (by decide) (Nat.le_of_ble_eq_true rfl) dX11_endsNumber_71 rfl ?_
      exact e_vret (pc := 74) X hr hf (Nat.le_refl _) (Nat.le_refl _) dX11_endsNumber_74
    · refine r_sipush (v := 10000) (pc := 44) X dX11_endsNumber_44 (by decide) ?_
      refine r_aload_n (x := some 39) (pc := 47) X dX11_endsNumber_47 0 rfl ?_
      refine r_get (j := 11) (pc := 48) X ce_39 rfl inT11 (by decide) w_1091 rfl dX11_endsNumber_48 ?_
      refine r_isub (pc := 51) X dX11_endsNumber_51 ?_
      refine r_goto (tgt := 63) (pc := 52) X dX11_endsNumber_52 (by decide) ?_
      refine r_bipush (v := 10) (pc := 63) X dX11_endsNumber_63 (by decide) ?_
      refine r_ishl (pc := 65) X dX11_endsNumber_65 ?_
      refine r_ior (pc := 66) X dX11_endsNumber_66 ?_
      refine bnd hf (fun x5 h5 hf => ?_)
      refine r_callVv (As := [.int 4, .int (((gI s 2512) ||| ((gI s 2513) <<< ((2 : Int32) &&& 31))) ||| (((10000 : Int32) - (gI s 2507)) <<< ((10 : Int32) &&& 31)))]) (st := []) (pc := 67) X (c_f_M_putsAsk h5) rfl w_1299 w_1301 w_42 w_84 w_1302 hdV_X11_putsAsk (Rc.s rfl ce_39) (by decide) (by decide) (by decide) (Nat.le_of_ble_eq_true rfl) dX11_endsNumber_67 rfl ?_
      refine r_aload_n (x := some 39) (pc := 70) X dX11_endsNumber_70 0 rfl ?_
      refine bnd hf (fun x6 h6 hf => ?_)
      refine r_callVv (As := []) (st := []) (pc := 71) X (c_f_M_endsTerm h6) rfl w_1303 w_1305 w_43 w_84 w_1306 hdV_X11_endsTerm (Rc.s rfl ce_39) (by decide) (by decide) (by decide) (Nat.le_of_ble_eq_true rfl) dX11_endsNumber_71 rfl ?_
      exact e_vret (pc := 74) X hr hf (Nat.le_refl _) (Nat.le_refl _) dX11_endsNumber_74
/-! f_M_reads -/
theorem dX11_reads_0 : decode cX11_reads 0 = .ok (.aload_n 0, 1) := by decide +kernel
theorem dX11_reads_1 : decode cX11_reads 1 = .ok (.getfield 120, 3) := by decide +kernel
theorem dX11_reads_4 : decode cX11_reads 4 = .ok (.iconst 1, 1) := by decide +kernel
theorem dX11_reads_5 : decode cX11_reads 5 = .ok (.if_icmp .eq 12, 3) := by decide +kernel
theorem dX11_reads_8 : decode cX11_reads 8 = .ok (.aload_n 0, 1) := by decide +kernel
theorem dX11_reads_9 : decode cX11_reads 9 = .ok (.getfield 120, 3) := by decide +kernel
theorem dX11_reads_12 : decode cX11_reads 12 = .ok (.bipush 10, 2) := by decide +kernel
theorem dX11_reads_14 : decode cX11_reads 14 = .ok (.if_icmp .ne 17, 3) := by decide +kernel
theorem dX11_reads_17 : decode cX11_reads 17 = .ok (.aload_n 0, 1) := by decide +kernel
theorem dX11_reads_18 : decode cX11_reads 18 = .ok (.iload_n 1, 1) := by decide +kernel
theorem dX11_reads_19 : decode cX11_reads 19 = .ok (.invokevirtual 194, 3) := by decide +kernel
theorem dX11_reads_22 : decode cX11_reads 22 = .ok (.ifCond .eq 5, 3) := by decide +kernel
theorem dX11_reads_25 : decode cX11_reads 25 = .ok (.iconst 1, 1) := by decide +kernel
theorem dX11_reads_26 : decode cX11_reads 26 = .ok (.ireturn, 1) := by decide +kernel
theorem dX11_reads_27 : decode cX11_reads 27 = .ok (.aload_n 0, 1) := by decide +kernel
theorem dX11_reads_28 : decode cX11_reads 28 = .ok (.invokevirtual 197, 3) := by decide +kernel
theorem dX11_reads_31 : decode cX11_reads 31 = .ok (.aload_n 0, 1) := by decide +kernel
theorem dX11_reads_32 : decode cX11_reads 32 = .ok (.getfield 120, 3) := by decide +kernel
theorem dX11_reads_35 : decode cX11_reads 35 = .ok (.ifCond .ne 9, 3) := by decide +kernel
theorem dX11_reads_38 : decode cX11_reads 38 = .ok (.aload_n 0, 1) := by decide +kernel
theorem dX11_reads_39 : decode cX11_reads 39 = .ok (.iload_n 1, 1) := by decide +kernel
theorem dX11_reads_40 : decode cX11_reads 40 = .ok (.invokevirtual 200, 3) := by decide +kernel
theorem dX11_reads_43 : decode cX11_reads 43 = .ok (.ireturn, 1) := by decide +kernel
theorem dX11_reads_44 : decode cX11_reads 44 = .ok (.aload_n 0, 1) := by decide +kernel
theorem dX11_reads_45 : decode cX11_reads 45 = .ok (.getfield 120, 3) := by decide +kernel
theorem dX11_reads_48 : decode cX11_reads 48 = .ok (.iconst 2, 1) := by decide +kernel
theorem dX11_reads_49 : decode cX11_reads 49 = .ok (.if_icmp .ne 9, 3) := by decide +kernel
theorem dX11_reads_52 : decode cX11_reads 52 = .ok (.aload_n 0, 1) := by decide +kernel
theorem dX11_reads_53 : decode cX11_reads 53 = .ok (.iload_n 1, 1) := by decide +kernel
theorem dX11_reads_54 : decode cX11_reads 54 = .ok (.invokevirtual 203, 3) := by decide +kernel
theorem dX11_reads_57 : decode cX11_reads 57 = .ok (.ireturn, 1) := by decide +kernel
theorem dX11_reads_58 : decode cX11_reads 58 = .ok (.aload_n 0, 1) := by decide +kernel
theorem dX11_reads_59 : decode cX11_reads 59 = .ok (.getfield 120, 3) := by decide +kernel
theorem dX11_reads_62 : decode cX11_reads 62 = .ok (.iconst 3, 1) := by decide +kernel
theorem dX11_reads_63 : decode cX11_reads 63 = .ok (.if_icmp .ne 31, 3) := by decide +kernel
theorem dX11_reads_66 : decode cX11_reads 66 = .ok (.aload_n 0, 1) := by decide +kernel
theorem dX11_reads_67 : decode cX11_reads 67 = .ok (.aload_n 0, 1) := by decide +kernel
theorem dX11_reads_68 : decode cX11_reads 68 = .ok (.getfield 136, 3) := by decide +kernel
theorem dX11_reads_71 : decode cX11_reads 71 = .ok (.ifCond .ne 7, 3) := by decide +kernel
theorem dX11_reads_74 : decode cX11_reads 74 = .ok (.iconst 5, 1) := by decide +kernel
theorem dX11_reads_75 : decode cX11_reads 75 = .ok (.goto 4, 3) := by decide +kernel
theorem dX11_reads_78 : decode cX11_reads 78 = .ok (.iconst 4, 1) := by decide +kernel
theorem dX11_reads_79 : decode cX11_reads 79 = .ok (.putfield 120, 3) := by decide +kernel
theorem dX11_reads_82 : decode cX11_reads 82 = .ok (.iload_n 1, 1) := by decide +kernel
theorem dX11_reads_83 : decode cX11_reads 83 = .ok (.bipush 40, 2) := by decide +kernel
theorem dX11_reads_85 : decode cX11_reads 85 = .ok (.if_icmp .ne 7, 3) := by decide +kernel
theorem dX11_reads_88 : decode cX11_reads 88 = .ok (.iconst 1, 1) := by decide +kernel
theorem dX11_reads_89 : decode cX11_reads 89 = .ok (.goto 4, 3) := by decide +kernel
theorem dX11_reads_92 : decode cX11_reads 92 = .ok (.iconst 0, 1) := by decide +kernel
theorem dX11_reads_93 : decode cX11_reads 93 = .ok (.ireturn, 1) := by decide +kernel
theorem dX11_reads_94 : decode cX11_reads 94 = .ok (.aload_n 0, 1) := by decide +kernel
theorem dX11_reads_95 : decode cX11_reads 95 = .ok (.getfield 120, 3) := by decide +kernel
theorem dX11_reads_98 : decode cX11_reads 98 = .ok (.iconst 4, 1) := by decide +kernel
theorem dX11_reads_99 : decode cX11_reads 99 = .ok (.if_icmp .ne 30, 3) := by decide +kernel
theorem dX11_reads_102 : decode cX11_reads 102 = .ok (.aload_n 0, 1) := by decide +kernel
theorem dX11_reads_103 : decode cX11_reads 103 = .ok (.iload_n 1, 1) := by decide +kernel
theorem dX11_reads_104 : decode cX11_reads 104 = .ok (.invokestatic 175, 3) := by decide +kernel
theorem dX11_reads_107 : decode cX11_reads 107 = .ok (.putfield 139, 3) := by decide +kernel
theorem dX11_reads_110 : decode cX11_reads 110 = .ok (.aload_n 0, 1) := by decide +kernel
theorem dX11_reads_111 : decode cX11_reads 111 = .ok (.iconst 5, 1) := by decide +kernel
theorem dX11_reads_112 : decode cX11_reads 112 = .ok (.putfield 120, 3) := by decide +kernel
theorem dX11_reads_115 : decode cX11_reads 115 = .ok (.aload_n 0, 1) := by decide +kernel
theorem dX11_reads_116 : decode cX11_reads 116 = .ok (.getfield 139, 3) := by decide +kernel
theorem dX11_reads_119 : decode cX11_reads 119 = .ok (.iconst (-1), 1) := by decide +kernel
theorem dX11_reads_120 : decode cX11_reads 120 = .ok (.if_icmp .eq 7, 3) := by decide +kernel
theorem dX11_reads_123 : decode cX11_reads 123 = .ok (.iconst 1, 1) := by decide +kernel
theorem dX11_reads_124 : decode cX11_reads 124 = .ok (.goto 4, 3) := by decide +kernel
theorem dX11_reads_127 : decode cX11_reads 127 = .ok (.iconst 0, 1) := by decide +kernel
theorem dX11_reads_128 : decode cX11_reads 128 = .ok (.ireturn, 1) := by decide +kernel
theorem dX11_reads_129 : decode cX11_reads 129 = .ok (.aload_n 0, 1) := by decide +kernel
theorem dX11_reads_130 : decode cX11_reads 130 = .ok (.getfield 120, 3) := by decide +kernel
theorem dX11_reads_133 : decode cX11_reads 133 = .ok (.iconst 5, 1) := by decide +kernel
theorem dX11_reads_134 : decode cX11_reads 134 = .ok (.if_icmp .ne 9, 3) := by decide +kernel
theorem dX11_reads_137 : decode cX11_reads 137 = .ok (.aload_n 0, 1) := by decide +kernel
theorem dX11_reads_138 : decode cX11_reads 138 = .ok (.iload_n 1, 1) := by decide +kernel
theorem dX11_reads_139 : decode cX11_reads 139 = .ok (.invokevirtual 206, 3) := by decide +kernel
theorem dX11_reads_142 : decode cX11_reads 142 = .ok (.ireturn, 1) := by decide +kernel
theorem dX11_reads_143 : decode cX11_reads 143 = .ok (.aload_n 0, 1) := by decide +kernel
theorem dX11_reads_144 : decode cX11_reads 144 = .ok (.getfield 120, 3) := by decide +kernel
theorem dX11_reads_147 : decode cX11_reads 147 = .ok (.bipush 6, 2) := by decide +kernel
theorem dX11_reads_149 : decode cX11_reads 149 = .ok (.if_icmp .ne 9, 3) := by decide +kernel
theorem dX11_reads_152 : decode cX11_reads 152 = .ok (.aload_n 0, 1) := by decide +kernel
theorem dX11_reads_153 : decode cX11_reads 153 = .ok (.iload_n 1, 1) := by decide +kernel
theorem dX11_reads_154 : decode cX11_reads 154 = .ok (.invokevirtual 209, 3) := by decide +kernel
theorem dX11_reads_157 : decode cX11_reads 157 = .ok (.ireturn, 1) := by decide +kernel
theorem dX11_reads_158 : decode cX11_reads 158 = .ok (.aload_n 0, 1) := by decide +kernel
theorem dX11_reads_159 : decode cX11_reads 159 = .ok (.getfield 120, 3) := by decide +kernel
theorem dX11_reads_162 : decode cX11_reads 162 = .ok (.bipush 7, 2) := by decide +kernel
theorem dX11_reads_164 : decode cX11_reads 164 = .ok (.if_icmp .ne 28, 3) := by decide +kernel
theorem dX11_reads_167 : decode cX11_reads 167 = .ok (.aload_n 0, 1) := by decide +kernel
theorem dX11_reads_168 : decode cX11_reads 168 = .ok (.iload_n 1, 1) := by decide +kernel
theorem dX11_reads_169 : decode cX11_reads 169 = .ok (.putfield 187, 3) := by decide +kernel
theorem dX11_reads_172 : decode cX11_reads 172 = .ok (.aload_n 0, 1) := by decide +kernel
theorem dX11_reads_173 : decode cX11_reads 173 = .ok (.bipush 8, 2) := by decide +kernel
theorem dX11_reads_175 : decode cX11_reads 175 = .ok (.putfield 120, 3) := by decide +kernel
theorem dX11_reads_178 : decode cX11_reads 178 = .ok (.iload_n 1, 1) := by decide +kernel
theorem dX11_reads_179 : decode cX11_reads 179 = .ok (.invokestatic 123, 3) := by decide +kernel
theorem dX11_reads_182 : decode cX11_reads 182 = .ok (.iconst 1, 1) := by decide +kernel
theorem dX11_reads_183 : decode cX11_reads 183 = .ok (.if_icmp .ne 7, 3) := by decide +kernel
theorem dX11_reads_186 : decode cX11_reads 186 = .ok (.iconst 1, 1) := by decide +kernel
theorem dX11_reads_187 : decode cX11_reads 187 = .ok (.goto 4, 3) := by decide +kernel
theorem dX11_reads_190 : decode cX11_reads 190 = .ok (.iconst 0, 1) := by decide +kernel
theorem dX11_reads_191 : decode cX11_reads 191 = .ok (.ireturn, 1) := by decide +kernel
theorem dX11_reads_192 : decode cX11_reads 192 = .ok (.aload_n 0, 1) := by decide +kernel
theorem dX11_reads_193 : decode cX11_reads 193 = .ok (.getfield 120, 3) := by decide +kernel
theorem dX11_reads_196 : decode cX11_reads 196 = .ok (.bipush 11, 2) := by decide +kernel
theorem dX11_reads_198 : decode cX11_reads 198 = .ok (.if_icmp .ne 9, 3) := by decide +kernel
theorem dX11_reads_201 : decode cX11_reads 201 = .ok (.aload_n 0, 1) := by decide +kernel
theorem dX11_reads_202 : decode cX11_reads 202 = .ok (.iload_n 1, 1) := by decide +kernel
theorem dX11_reads_203 : decode cX11_reads 203 = .ok (.invokevirtual 212, 3) := by decide +kernel
theorem dX11_reads_206 : decode cX11_reads 206 = .ok (.ireturn, 1) := by decide +kernel
theorem dX11_reads_207 : decode cX11_reads 207 = .ok (.aload_n 0, 1) := by decide +kernel
theorem dX11_reads_208 : decode cX11_reads 208 = .ok (.getfield 120, 3) := by decide +kernel
theorem dX11_reads_211 : decode cX11_reads 211 = .ok (.bipush 8, 2) := by decide +kernel
theorem dX11_reads_213 : decode cX11_reads 213 = .ok (.if_icmp .ne 13, 3) := by decide +kernel
theorem dX11_reads_216 : decode cX11_reads 216 = .ok (.iload_n 1, 1) := by decide +kernel
theorem dX11_reads_217 : decode cX11_reads 217 = .ok (.bipush 45, 2) := by decide +kernel
theorem dX11_reads_219 : decode cX11_reads 219 = .ok (.if_icmp .ne 7, 3) := by decide +kernel
theorem dX11_reads_222 : decode cX11_reads 222 = .ok (.iconst 1, 1) := by decide +kernel
theorem dX11_reads_223 : decode cX11_reads 223 = .ok (.goto 4, 3) := by decide +kernel
theorem dX11_reads_226 : decode cX11_reads 226 = .ok (.iconst 0, 1) := by decide +kernel
theorem dX11_reads_227 : decode cX11_reads 227 = .ok (.istore_n 2, 1) := by decide +kernel
theorem dX11_reads_228 : decode cX11_reads 228 = .ok (.aload_n 0, 1) := by decide +kernel
theorem dX11_reads_229 : decode cX11_reads 229 = .ok (.aload_n 0, 1) := by decide +kernel
theorem dX11_reads_230 : decode cX11_reads 230 = .ok (.getfield 120, 3) := by decide +kernel
theorem dX11_reads_233 : decode cX11_reads 233 = .ok (.bipush 8, 2) := by decide +kernel
theorem dX11_reads_235 : decode cX11_reads 235 = .ok (.if_icmp .ne 7, 3) := by decide +kernel
theorem dX11_reads_238 : decode cX11_reads 238 = .ok (.iload_n 2, 1) := by decide +kernel
theorem dX11_reads_239 : decode cX11_reads 239 = .ok (.goto 7, 3) := by decide +kernel
theorem dX11_reads_242 : decode cX11_reads 242 = .ok (.aload_n 0, 1) := by decide +kernel
theorem dX11_reads_243 : decode cX11_reads 243 = .ok (.getfield 190, 3) := by decide +kernel
theorem dX11_reads_246 : decode cX11_reads 246 = .ok (.putfield 190, 3) := by decide +kernel
theorem dX11_reads_249 : decode cX11_reads 249 = .ok (.iload_n 2, 1) := by decide +kernel
theorem dX11_reads_250 : decode cX11_reads 250 = .ok (.ifCond .eq 11, 3) := by decide +kernel
theorem dX11_reads_253 : decode cX11_reads 253 = .ok (.aload_n 0, 1) := by decide +kernel
theorem dX11_reads_254 : decode cX11_reads 254 = .ok (.bipush 9, 2) := by decide +kernel
theorem dX11_reads_256 : decode cX11_reads 256 = .ok (.putfield 120, 3) := by decide +kernel
theorem dX11_reads_259 : decode cX11_reads 259 = .ok (.iconst 1, 1) := by decide +kernel
theorem dX11_reads_260 : decode cX11_reads 260 = .ok (.ireturn, 1) := by decide +kernel
theorem dX11_reads_261 : decode cX11_reads 261 = .ok (.aload_n 0, 1) := by decide +kernel
theorem dX11_reads_262 : decode cX11_reads 262 = .ok (.iload_n 1, 1) := by decide +kernel
theorem dX11_reads_263 : decode cX11_reads 263 = .ok (.invokevirtual 215, 3) := by decide +kernel
theorem dX11_reads_266 : decode cX11_reads 266 = .ok (.ireturn, 1) := by decide +kernel
def f_M_reads_b227 (F : Nat) (s : St) (l1 : Int32) (t0 : Int32) : Option (Int32 × St) :=
  if (gI s 2505) = 8 then
    (if t0 = 0 ∨ t0 = 1 then (lt (sI s 2508 t0) fun s16 => (if t0 = 0 then
      ((f_M_goesDigit F s16 l1).bind fun x17 => (if x17.1 = 0 ∨ x17.1 = 1 then (some (x17.1, x17.2)) else none))
    else
      (lt (sI s16 2505 9) fun s18 => (some (1, s18))))) else none)
  else
    (if gI s 2508 = 0 ∨ gI s 2508 = 1 then (lt (sI s 2508 (gI s 2508)) fun s19 => (if t0 = 0 then
      ((f_M_goesDigit F s19 l1).bind fun x20 => (if x20.1 = 0 ∨ x20.1 = 1 then (some (x20.1, x20.2)) else none))
    else
      (lt (sI s19 2505 9) fun s21 => (some (1, s21))))) else none)
def f_M_reads_b31 (F : Nat) (s : St) (l1 : Int32) : Option (Int32 × St) :=
  if (gI s 2505) = 0 then
    ((f_M_goesToUnit F s l1).bind fun x3 => (if x3.1 = 0 ∨ x3.1 = 1 then (some (x3.1, x3.2)) else none))
  else
    (if (gI s 2505) = 2 then
      ((f_M_goesBehind F s l1).bind fun x4 => (if x4.1 = 0 ∨ x4.1 = 1 then (some (x4.1, x4.2)) else none))
    else
      (if (gI s 2505) = 3 then
        (if (gI s 2509) = 0 then
          (lt (sI s 2505 5) fun s5 => (if l1 = 40 then
            (some (1, s5))
          else
            (some (0, s5))))
        else
          (lt (sI s 2505 4) fun s6 => (if l1 = 40 then
            (some (1, s6))
          else
            (some (0, s6)))))
      else
        (if (gI s 2505) = 4 then
          ((f_M_fieldOf F s l1).bind fun x7 => (lt (sI x7.2 2510 x7.1) fun s8 => (lt (sI s8 2505 5) fun s9 => (if (gI s9 2510) = (-1) then
            (some (0, s9))
          else
            (some (1, s9))))))
        else
          (if (gI s 2505) = 5 then
            ((f_M_goesMore F s l1).bind fun x10 => (if x10.1 = 0 ∨ x10.1 = 1 then (some (x10.1, x10.2)) else none))
          else
            (if (gI s 2505) = 6 then
              ((f_M_goesToTerm F s l1).bind fun x11 => (if x11.1 = 0 ∨ x11.1 = 1 then (some (x11.1, x11.2)) else none))
            else
              (if (gI s 2505) = 7 then
                (lt (sI s 2513 l1) fun s12 => (lt (sI s12 2505 8) fun s13 => ((f_M_rank F s13 l1).bind fun x14 => (if x14.1 = 1 then
                  (some (1, x14.2))
                else
                  (some (0, x14.2))))))
              else
                (if (gI s 2505) = 11 then
                  ((f_M_goesAfter F s l1).bind fun x15 => (if x15.1 = 0 ∨ x15.1 = 1 then (some (x15.1, x15.2)) else none))
                else
                  (if (gI s 2505) = 8 then
                    (if l1 = 45 then
                      (f_M_reads_b227 F s l1 1)
                    else
                      (f_M_reads_b227 F s l1 0))
                  else
                    (f_M_reads_b227 F s l1 0)))))))))
def f_M_reads (F : Nat) (s : St) (p1 : Int32) : Option (Int32 × St) :=
  if (gI s 2505) = 1 then
    ((f_M_goesOn F s p1).bind fun x1 => (if x1.1 = 0 then
      ((f_M_endsNumber F x1.2).bind fun x2 => (f_M_reads_b31 F x2 p1))
    else
      (some (1, x1.2))))
  else
    (if (gI s 2505) = 10 then
      ((f_M_goesOn F s p1).bind fun x22 => (if x22.1 = 0 then
        ((f_M_endsNumber F x22.2).bind fun x23 => (f_M_reads_b31 F x23 p1))
      else
        (some (1, x22.2))))
    else
      (f_M_reads_b31 F s p1))
set_option maxHeartbeats 1000000 in
theorem c_f_M_reads_b227 {F : Nat} {Γ : Ga} {D : DD} {B : Nat} {r : Int32} {s' : St} (X : Cx Γ RX11 cX11_reads 3 D B { frames := 4, cells := 0, slots := 0, locals := 86 }) (hr : (Gme Γ).sig.returnType = (some .boolean)) {s : St} {l1 : Int32} {t0 : Int32} (hf : f_M_reads_b227 F s l1 t0 = some (r, s')) : V Γ D B true 3 (QM Γ D B true s' (some (.int r)) 0 0) 0 0 s 227 [(0, .ref (B + 39)), (1, .int l1)] [.int t0] := by
  unfold f_M_reads_b227 at hf
  refine r_istore_n (pc := 227) (lv' := [(0, .ref (B + 39)), (1, .int l1), (2, .int t0)]) X dX11_reads_227 (by decide) [1, 2, 0] rfl ?_
  refine r_aload_n (x := some 39) (pc := 228) X dX11_reads_228 0 rfl ?_
  refine r_aload_n (x := some 39) (pc := 229) X dX11_reads_229 0 rfl ?_
  refine r_get (j := 9) (pc := 230) X ce_39 rfl inT11 (by decide) w_1089 rfl dX11_reads_230 ?_
  refine r_bipush (v := 8) (pc := 233) X dX11_reads_233 (by decide) ?_
  refine b_icmp_ne (tgt := 242) (pc := 235) X dX11_reads_235 (by decide) hf (fun hf => ?_) (fun hf => ?_)
  · refine r_iload_n (pc := 238) X dX11_reads_238 2 rfl ?_
    refine r_goto (tgt := 246) (pc := 239) X dX11_reads_239 (by decide) ?_
    refine ifo hf (fun hx hf => ?_)
    refine b_put (j := 12) (pc := 246) X ce_39 rfl inT11 tyX11 tyX11_ok nmX11 (by decide) w_1092 rfl (tyX11_ok 12 (by decide)) (nar_z hx) (fit_z hx) (Nat.le_of_ble_eq_true rfl) (cp_2508 _) rfl rfl dX11_reads_246 hf (fun s16 hf => ?_)
    refine r_iload_n (pc := 249) X dX11_reads_249 2 rfl ?_
    refine b_if_eq (tgt := 261) (pc := 250) X dX11_reads_250 (by decide) hf (fun hf => ?_) (fun hf => ?_)
    · refine r_aload_n (x := some 39) (pc := 261) X dX11_reads_261 0 rfl ?_
      refine r_iload_n (pc := 262) X dX11_reads_262 1 rfl ?_
      refine bnd hf (fun x17 h17 hf => ?_)
      refine r_callVi (As := [.int l1]) (st := []) (pc := 263) X (c_f_M_goesDigit h17) rfl w_1351 w_1353 w_52 w_84 w_1354 hdV_X11_goesDigit (Rc.s rfl ce_39) (by decide) (by decide) (by decide) (Nat.le_of_ble_eq_true rfl) dX11_reads_263 rfl ?_
      refine ifo hf (fun hx hf => ?_)
      exact e_zret (pc := 266) X hr hx hf (Nat.le_refl _) (Nat.le_refl _) dX11_reads_266
    · refine r_aload_n (x := some 39) (pc := 253) X dX11_reads_253 0 rfl ?_
      refine r_bipush (v := 9) (pc := 254) X dX11_reads_254 (by decide) ?_
      refine b_put (j := 9) (pc := 256) X ce_39 rfl inT11 tyX11 tyX11_ok nmX11 (by decide) w_1089 rfl (tyX11_ok 9 (by decide)) rfl rfl (Nat.le_of_ble_eq_true rfl) (cp_2505 _) rfl rfl dX11_reads_256 hf (fun s18 hf => ?_)
      refine r_iconst (v := 1) (pc := 259) X dX11_reads_259 (by decide) ?_
      exact e_zret (pc := 260) X hr (by decide) hf (Nat.le_refl _) (Nat.le_refl _) dX11_reads_260
  · refine r_aload_n (x := some 39) (pc := 242) X dX11_reads_242 0 rfl ?_
    refine r_get (j := 12) (pc := 243) X ce_39 rfl inT11 (by decide) w_1092 rfl dX11_reads_243 ?_
    refine ifo hf (fun hx hf => ?_)
    refine b_put (j := 12) (pc := 246) X ce_39 rfl inT11 tyX11 tyX11_ok nmX11 (by decide) w_1092 rfl (tyX11_ok 12 (by decide)) (nar_z hx) (fit_z hx) (Nat.le_of_ble_eq_true rfl) (cp_2508 _) rfl rfl dX11_reads_246 hf (fun s19 hf => ?_)
    refine r_iload_n (pc := 249) X dX11_reads_249 2 rfl ?_
    refine b_if_eq (tgt := 261) (pc := 250) X dX11_reads_250 (by decide) hf (fun hf => ?_) (fun hf => ?_)
    · refine r_aload_n (x := some 39) (pc := 261) X dX11_reads_261 0 rfl ?_
      refine r_iload_n (pc := 262) X dX11_reads_262 1 rfl ?_
      refine bnd hf (fun x20 h20 hf => ?_)
      refine r_callVi (As := [.int l1]) (st := []) (pc := 263) X (c_f_M_goesDigit h20) rfl w_1351 w_1353 w_52 w_84 w_1354 hdV_X11_goesDigit (Rc.s rfl ce_39) (by decide) (by decide) (by decide) (Nat.le_of_ble_eq_true rfl) dX11_reads_263 rfl ?_
      refine ifo hf (fun hx hf => ?_)
      exact e_zret (pc := 266) X hr hx hf (Nat.le_refl _) (Nat.le_refl _) dX11_reads_266
    · refine r_aload_n (x := some 39) (pc := 253) X dX11_reads_253 0 rfl ?_
      refine r_bipush (v := 9) (pc := 254) X dX11_reads_254 (by decide) ?_
      refine b_put (j := 9) (pc := 256) X ce_39 rfl inT11 tyX11 tyX11_ok nmX11 (by decide) w_1089 rfl (tyX11_ok 9 (by decide)) rfl rfl (Nat.le_of_ble_eq_true rfl) (cp_2505 _) rfl rfl dX11_reads_256 hf (fun s21 hf => ?_)
      refine r_iconst (v := 1) (pc := 259) X dX11_reads_259 (by decide) ?_
      exact e_zret (pc := 260) X hr (by decide) hf (Nat.le_refl _) (Nat.le_refl _) dX11_reads_260
set_option maxHeartbeats 1000000 in
theorem c_f_M_reads_b31 {F : Nat} {Γ : Ga} {D : DD} {B : Nat} {r : Int32} {s' : St} (X : Cx Γ RX11 cX11_reads 3 D B { frames := 4, cells := 0, slots := 0, locals := 86 }) (hr : (Gme Γ).sig.returnType = (some .boolean)) {s : St} {l1 : Int32} (hf : f_M_reads_b31 F s l1 = some (r, s')) : V Γ D B true 3 (QM Γ D B true s' (some (.int r)) 0 0) 0 0 s 31 [(0, .ref (B + 39)), (1, .int l1)] [] := by
  unfold f_M_reads_b31 at hf
  refine r_aload_n (x := some 39) (pc := 31) X dX11_reads_31 0 rfl ?_
  refine r_get (j := 9) (pc := 32) X ce_39 rfl inT11 (by decide) w_1089 rfl dX11_reads_32 ?_
  refine b_if_ne (tgt := 44) (pc := 35) X dX11_reads_35 (by decide) hf (fun hf => ?_) (fun hf => ?_)
  · refine r_aload_n (x := some 39) (pc := 38) X dX11_reads_38 0 rfl ?_
    refine r_iload_n (pc := 39) X dX11_reads_39 1 rfl ?_
    refine bnd hf (fun x3 h3 hf => ?_)
    refine r_callVi (As := [.int l1]) (st := []) (pc := 40) X (c_f_M_goesToUnit h3) rfl w_1307 w_1309 w_44 w_84 w_1310 hdV_X11_goesToUnit (Rc.s rfl ce_39) (by decide) (by decide) (by decide) (Nat.le_of_ble_eq_true rfl) dX11_reads_40 rfl ?_
    refine ifo hf (fun hx hf => ?_)
    exact e_zret (pc := 43) X hr hx hf (Nat.le_refl _) (Nat.le_refl _) dX11_reads_43
  · refine r_aload_n (x := some 39) (pc := 44) X dX11_reads_44 0 rfl ?_
    refine r_get (j := 9) (pc := 45) X ce_39 rfl inT11 (by decide) w_1089 rfl dX11_reads_45 ?_
    refine r_iconst (v := 2) (pc := 48) X dX11_reads_48 (by decide) ?_
    refine b_icmp_ne (tgt := 58) (pc := 49) X dX11_reads_49 (by decide) hf (fun hf => ?_) (fun hf => ?_)
    · refine r_aload_n (x := some 39) (pc := 52) X dX11_reads_52 0 rfl ?_
      refine r_iload_n (pc := 53) X dX11_reads_53 1 rfl ?_
      refine bnd hf (fun x4 h4 hf => ?_)
      refine r_callVi (As := [.int l1]) (st := []) (pc := 54) X (c_f_M_goesBehind h4) rfl w_1314 w_1316 w_45 w_84 w_1317 hdV_X11_goesBehind (Rc.s rfl ce_39) (by decide) (by decide) (by decide) (Nat.le_of_ble_eq_true rfl) dX11_reads_54 rfl ?_
      refine ifo hf (fun hx hf => ?_)
      exact e_zret (pc := 57) X hr hx hf (Nat.le_refl _) (Nat.le_refl _) dX11_reads_57
    · refine r_aload_n (x := some 39) (pc := 58) X dX11_reads_58 0 rfl ?_
      refine r_get (j := 9) (pc := 59) X ce_39 rfl inT11 (by decide) w_1089 rfl dX11_reads_59 ?_
      refine r_iconst (v := 3) (pc := 62) X dX11_reads_62 (by decide) ?_
      refine b_icmp_ne (tgt := 94) (pc := 63) X dX11_reads_63 (by decide) hf (fun hf => ?_) (fun hf => ?_)
      · refine r_aload_n (x := some 39) (pc := 66) X dX11_reads_66 0 rfl ?_
        refine r_aload_n (x := some 39) (pc := 67) X dX11_reads_67 0 rfl ?_
        refine r_get (j := 13) (pc := 68) X ce_39 rfl inT11 (by decide) w_1093 rfl dX11_reads_68 ?_
        refine b_if_ne (tgt := 78) (pc := 71) X dX11_reads_71 (by decide) hf (fun hf => ?_) (fun hf => ?_)
        · refine r_iconst (v := 5) (pc := 74) X dX11_reads_74 (by decide) ?_
          refine r_goto (tgt := 79) (pc := 75) X dX11_reads_75 (by decide) ?_
          refine b_put (j := 9) (pc := 79) X ce_39 rfl inT11 tyX11 tyX11_ok nmX11 (by decide) w_1089 rfl (tyX11_ok 9 (by decide)) rfl rfl (Nat.le_of_ble_eq_true rfl) (cp_2505 _) rfl rfl dX11_reads_79 hf (fun s5 hf => ?_)
          refine r_iload_n (pc := 82) X dX11_reads_82 1 rfl ?_
          refine r_bipush (v := 40) (pc := 83) X dX11_reads_83 (by decide) ?_
          refine b_icmp_ne (tgt := 92) (pc := 85) X dX11_reads_85 (by decide) hf (fun hf => ?_) (fun hf => ?_)
          · refine r_iconst (v := 1) (pc := 88) X dX11_reads_88 (by decide) ?_
            refine r_goto (tgt := 93) (pc := 89) X dX11_reads_89 (by decide) ?_
            exact e_zret (pc := 93) X hr (by decide) hf (Nat.le_refl _) (Nat.le_refl _) dX11_reads_93
          · refine r_iconst (v := 0) (pc := 92) X dX11_reads_92 (by decide) ?_
            exact e_zret (pc := 93) X hr (by decide) hf (Nat.le_refl _) (Nat.le_refl _) dX11_reads_93
        · refine r_iconst (v := 4) (pc := 78) X dX11_reads_78 (by decide) ?_
          refine b_put (j := 9) (pc := 79) X ce_39 rfl inT11 tyX11 tyX11_ok nmX11 (by decide) w_1089 rfl (tyX11_ok 9 (by decide)) rfl rfl (Nat.le_of_ble_eq_true rfl) (cp_2505 _) rfl rfl dX11_reads_79 hf (fun s6 hf => ?_)
          refine r_iload_n (pc := 82) X dX11_reads_82 1 rfl ?_
          refine r_bipush (v := 40) (pc := 83) X dX11_reads_83 (by decide) ?_
          refine b_icmp_ne (tgt := 92) (pc := 85) X dX11_reads_85 (by decide) hf (fun hf => ?_) (fun hf => ?_)
          · refine r_iconst (v := 1) (pc := 88) X dX11_reads_88 (by decide) ?_
            refine r_goto (tgt := 93) (pc := 89) X dX11_reads_89 (by decide) ?_
            exact e_zret (pc := 93) X hr (by decide) hf (Nat.le_refl _) (Nat.le_refl _) dX11_reads_93
          · refine r_iconst (v := 0) (pc := 92) X dX11_reads_92 (by decide) ?_
            exact e_zret (pc := 93) X hr (by decide) hf (Nat.le_refl _) (Nat.le_refl _) dX11_reads_93
      · refine r_aload_n (x := some 39) (pc := 94) X dX11_reads_94 0 rfl ?_
        refine r_get (j := 9) (pc := 95) X ce_39 rfl inT11 (by decide) w_1089 rfl dX11_reads_95 ?_
        refine r_iconst (v := 4) (pc := 98) X dX11_reads_98 (by decide) ?_
        refine b_icmp_ne (tgt := 129) (pc := 99) X dX11_reads_99 (by decide) hf (fun hf => ?_) (fun hf => ?_)
        · refine r_aload_n (x := some 39) (pc := 102) X dX11_reads_102 0 rfl ?_
          refine r_iload_n (pc := 103) X dX11_reads_103 1 rfl ?_
          refine bnd hf (fun x7 h7 hf => ?_)
          refine r_callSi (As := [.int l1]) (st := [.ref (B + 39)]) (pc := 104) X (c_f_M_fieldOf h7) rfl w_1325 w_1326 w_84 w_1327 hdS_X11_fieldOf (by decide) (by decide) (by decide) (Nat.le_of_ble_eq_true rfl) dX11_reads_104 rfl ?_
          refine b_put (j := 14) (pc := 107) X ce_39 rfl inT11 tyX11 tyX11_ok nmX11 (by decide) w_1094 rfl (tyX11_ok 14 (by decide)) rfl rfl (Nat.le_of_ble_eq_true rfl) (cp_2510 _) rfl rfl dX11_reads_107 hf (fun s8 hf => ?_)
          refine r_aload_n (x := some 39) (pc := 110) X dX11_reads_110 0 rfl ?_
          refine r_iconst (v := 5) (pc := 111) X dX11_reads_111 (by decide) ?_
          refine b_put (j := 9) (pc := 112) X ce_39 rfl inT11 tyX11 tyX11_ok nmX11 (by decide) w_1089 rfl (tyX11_ok 9 (by decide)) rfl rfl (Nat.le_of_ble_eq_true rfl) (cp_2505 _) rfl rfl dX11_reads_112 hf (fun s9 hf => ?_)
          refine r_aload_n (x := some 39) (pc := 115) X dX11_reads_115 0 rfl ?_
          refine r_get (j := 14) (pc := 116) X ce_39 rfl inT11 (by decide) w_1094 rfl dX11_reads_116 ?_
          refine r_iconst (v := -1) (pc := 119) X dX11_reads_119 (by decide) ?_
          refine b_icmp_eq (tgt := 127) (pc := 120) X dX11_reads_120 (by decide) hf (fun hf => ?_) (fun hf => ?_)
          · refine r_iconst (v := 0) (pc := 127) X dX11_reads_127 (by decide) ?_
            exact e_zret (pc := 128) X hr (by decide) hf (Nat.le_refl _) (Nat.le_refl _) dX11_reads_128
          · refine r_iconst (v := 1) (pc := 123) X dX11_reads_123 (by decide) ?_
            refine r_goto (tgt := 128) (pc := 124) X dX11_reads_124 (by decide) ?_
            exact e_zret (pc := 128) X hr (by decide) hf (Nat.le_refl _) (Nat.le_refl _) dX11_reads_128
        · refine r_aload_n (x := some 39) (pc := 129) X dX11_reads_129 0 rfl ?_
          refine r_get (j := 9) (pc := 130) X ce_39 rfl inT11 (by decide) w_1089 rfl dX11_reads_130 ?_
          refine r_iconst (v := 5) (pc := 133) X dX11_reads_133 (by decide) ?_
          refine b_icmp_ne (tgt := 143) (pc := 134) X dX11_reads_134 (by decide) hf (fun hf => ?_) (fun hf => ?_)
          · refine r_aload_n (x := some 39) (pc := 137) X dX11_reads_137 0 rfl ?_
            refine r_iload_n (pc := 138) X dX11_reads_138 1 rfl ?_
            refine bnd hf (fun x10 h10 hf => ?_)
            refine r_callVi (As := [.int l1]) (st := []) (pc := 139) X (c_f_M_goesMore h10) rfl w_1328 w_1330 w_47 w_84 w_1331 hdV_X11_goesMore (Rc.s rfl ce_39) (by decide) (by decide) (by decide) (Nat.le_of_ble_eq_true rfl) dX11_reads_139 rfl ?_
            refine ifo hf (fun hx hf => ?_)
            exact e_zret (pc := 142) X hr hx hf (Nat.le_refl _) (Nat.le_refl _) dX11_reads_142
          · refine r_aload_n (x := some 39) (pc := 143) X dX11_reads_143 0 rfl ?_
            refine r_get (j := 9) (pc := 144) X ce_39 rfl inT11 (by decide) w_1089 rfl dX11_reads_144 ?_
            refine r_bipush (v := 6) (pc := 147) X dX11_reads_147 (by decide) ?_
            refine b_icmp_ne (tgt := 158) (pc := 149) X dX11_reads_149 (by decide) hf (fun hf => ?_) (fun hf => ?_)
            · refine r_aload_n (x := some 39) (pc := 152) X dX11_reads_152 0 rfl ?_
              refine r_iload_n (pc := 153) X dX11_reads_153 1 rfl ?_
              refine bnd hf (fun x11 h11 hf => ?_)
              refine r_callVi (As := [.int l1]) (st := []) (pc := 154) X (c_f_M_goesToTerm h11) rfl w_1336 w_1338 w_49 w_84 w_1339 hdV_X11_goesToTerm (Rc.s rfl ce_39) (by decide) (by decide) (by decide) (Nat.le_of_ble_eq_true rfl) dX11_reads_154 rfl ?_
              refine ifo hf (fun hx hf => ?_)
              exact e_zret (pc := 157) X hr hx hf (Nat.le_refl _) (Nat.le_refl _) dX11_reads_157
            · refine r_aload_n (x := some 39) (pc := 158) X dX11_reads_158 0 rfl ?_
              refine r_get (j := 9) (pc := 159) X ce_39 rfl inT11 (by decide) w_1089 rfl dX11_reads_159 ?_
              refine r_bipush (v := 7) (pc := 162) X dX11_reads_162 (by decide) ?_
              refine b_icmp_ne (tgt := 192) (pc := 164) X dX11_reads_164 (by decide) hf (fun hf => ?_) (fun hf => ?_)
              · refine r_aload_n (x := some 39) (pc := 167) X dX11_reads_167 0 rfl ?_
                refine r_iload_n (pc := 168) X dX11_reads_168 1 rfl ?_
                refine b_put (j := 17) (pc := 169) X ce_39 rfl inT11 tyX11 tyX11_ok nmX11 (by decide) w_1097 rfl (tyX11_ok 17 (by decide)) rfl rfl (Nat.le_of_ble_eq_true rfl) (cp_2513 _) rfl rfl dX11_reads_169 hf (fun s12 hf => ?_)
                refine r_aload_n (x := some 39) (pc := 172) X dX11_reads_172 0 rfl ?_
                refine r_bipush (v := 8) (pc := 173) X dX11_reads_173 (by decide) ?_
                refine b_put (j := 9) (pc := 175) X ce_39 rfl inT11 tyX11 tyX11_ok nmX11 (by decide) w_1089 rfl (tyX11_ok 9 (by decide)) rfl rfl (Nat.le_of_ble_eq_true rfl) (cp_2505 _) rfl rfl dX11_reads_175 hf (fun s13 hf => ?_)
                refine r_iload_n (pc := 178) X dX11_reads_178 1 rfl ?_
                refine bnd hf (fun x14 h14 hf => ?_)
                refine r_callSi (As := [.int l1]) (st := []) (pc := 179) X (c_f_M_rank h14) rfl w_1318 w_1319 w_84 w_1320 hdS_X11_rank (by decide) (by decide) (by decide) (Nat.le_of_ble_eq_true rfl) dX11_reads_179 rfl ?_
                refine r_iconst (v := 1) (pc := 182) X dX11_reads_182 (by decide) ?_
                refine b_icmp_ne (tgt := 190) (pc := 183) X dX11_reads_183 (by decide) hf (fun hf => ?_) (fun hf => ?_)
                · refine r_iconst (v := 1) (pc := 186) X dX11_reads_186 (by decide) ?_
                  refine r_goto (tgt := 191) (pc := 187) X dX11_reads_187 (by decide) ?_
                  exact e_zret (pc := 191) X hr (by decide) hf (Nat.le_refl _) (Nat.le_refl _) dX11_reads_191
                · refine r_iconst (v := 0) (pc := 190) X dX11_reads_190 (by decide) ?_
                  exact e_zret (pc := 191) X hr (by decide) hf (Nat.le_refl _) (Nat.le_refl _) dX11_reads_191
              · refine r_aload_n (x := some 39) (pc := 192) X dX11_reads_192 0 rfl ?_
                refine r_get (j := 9) (pc := 193) X ce_39 rfl inT11 (by decide) w_1089 rfl dX11_reads_193 ?_
                refine r_bipush (v := 11) (pc := 196) X dX11_reads_196 (by decide) ?_
                refine b_icmp_ne (tgt := 207) (pc := 198) X dX11_reads_198 (by decide) hf (fun hf => ?_) (fun hf => ?_)
                · refine r_aload_n (x := some 39) (pc := 201) X dX11_reads_201 0 rfl ?_
                  refine r_iload_n (pc := 202) X dX11_reads_202 1 rfl ?_
                  refine bnd hf (fun x15 h15 hf => ?_)
                  refine r_callVi (As := [.int l1]) (st := []) (pc := 203) X (c_f_M_goesAfter h15) rfl w_1340 w_1342 w_50 w_84 w_1343 hdV_X11_goesAfter (Rc.s rfl ce_39) (by decide) (by decide) (by decide) (Nat.le_of_ble_eq_true rfl) dX11_reads_203 rfl ?_
                  refine ifo hf (fun hx hf => ?_)
                  exact e_zret (pc := 206) X hr hx hf (Nat.le_refl _) (Nat.le_refl _) dX11_reads_206
                · refine r_aload_n (x := some 39) (pc := 207) X dX11_reads_207 0 rfl ?_
                  refine r_get (j := 9) (pc := 208) X ce_39 rfl inT11 (by decide) w_1089 rfl dX11_reads_208 ?_
                  refine r_bipush (v := 8) (pc := 211) X dX11_reads_211 (by decide) ?_
                  refine b_icmp_ne (tgt := 226) (pc := 213) X dX11_reads_213 (by decide) hf (fun hf => ?_) (fun hf => ?_)
                  · refine r_iload_n (pc := 216) X dX11_reads_216 1 rfl ?_
                    refine r_bipush (v := 45) (pc := 217) X dX11_reads_217 (by decide) ?_
                    refine b_icmp_ne (tgt := 226) (pc := 219) X dX11_reads_219 (by decide) hf (fun hf => ?_) (fun hf => ?_)
                    · refine r_iconst (v := 1) (pc := 222) X dX11_reads_222 (by decide) ?_
                      refine r_goto (tgt := 227) (pc := 223) X dX11_reads_223 (by decide) ?_
                      exact c_f_M_reads_b227 X hr hf
                    · refine r_iconst (v := 0) (pc := 226) X dX11_reads_226 (by decide) ?_
                      exact c_f_M_reads_b227 X hr hf
                  · refine r_iconst (v := 0) (pc := 226) X dX11_reads_226 (by decide) ?_
                    exact c_f_M_reads_b227 X hr hf
set_option maxHeartbeats 1000000 in
theorem c_f_M_reads {F : Nat} {s : St} {p1 : Int32} {r : Int32} {s' : St} (hf : f_M_reads F s p1 = some (r, s')) : CC true yX11_reads (Cond.code yX11_reads cX11_reads 3 (some .boolean)) 4 86 (fun B => [.ref (B + 39), .int p1]) s (fun B => (some (.int r))) s' 0 0 := by
  refine CC.of (fun B => [(0, .ref (B + 39)), (1, .int p1)]) (by decide +kernel) (fun _ => rfl) (fun _ => (by simp [lg_sl, rfB_cat, catI, catL, catR])) (fun Γ D B X hr hin => ?_)
  have X : Cx Γ RX11 cX11_reads 3 D B { frames := 4, cells := 0, slots := 0, locals := 86 } := X
  unfold f_M_reads at hf
  refine r_aload_n (x := some 39) (pc := 0) X dX11_reads_0 0 rfl ?_
  refine r_get (j := 9) (pc := 1) X ce_39 rfl inT11 (by decide) w_1089 rfl dX11_reads_1 ?_
  refine r_iconst (v := 1) (pc := 4) X dX11_reads_4 (by decide) ?_
  refine b_icmp_eq (tgt := 17) (pc := 5) X dX11_reads_5 (by decide) hf (fun hf => ?_) (fun hf => ?_)
  · refine r_aload_n (x := some 39) (pc := 17) X dX11_reads_17 0 rfl ?_
    refine r_iload_n (pc := 18) X dX11_reads_18 1 rfl ?_
    refine bnd hf (fun x1 h1 hf => ?_)
    refine r_callVi (As := [.int p1]) (st := []) (pc := 19) X (c_f_M_goesOn h1) rfl w_1280 w_1282 w_38 w_84 w_1283 hdV_X11_goesOn (Rc.s rfl ce_39) (by decide) (by decide) (by decide) (Nat.le_of_ble_eq_true rfl) dX11_reads_19 rfl ?_
    refine b_if_eq (tgt := 27) (pc := 22) X dX11_reads_22 (by decide) hf (fun hf => ?_) (fun hf => ?_)
    · refine r_aload_n (x := some 39) (pc := 27) X dX11_reads_27 0 rfl ?_
      refine bnd hf (fun x2 h2 hf => ?_)
      refine r_callVv (As := []) (st := []) (pc := 28) X (c_f_M_endsNumber h2) rfl w_1287 w_1289 w_39 w_84 w_1290 hdV_X11_endsNumber (Rc.s rfl ce_39) (by decide) (by decide) (by decide) (Nat.le_of_ble_eq_true rfl) dX11_reads_28 rfl ?_
      exact c_f_M_reads_b31 X hr hf
    · refine r_iconst (v := 1) (pc := 25) X dX11_reads_25 (by decide) ?_
      exact e_zret (pc := 26) X hr (by decide) hf (Nat.le_refl _) (Nat.le_refl _) dX11_reads_26
  · refine r_aload_n (x := some 39) (pc := 8) X dX11_reads_8 0 rfl ?_
    refine r_get (j := 9) (pc := 9) X ce_39 rfl inT11 (by decide) w_1089 rfl dX11_reads_9 ?_
    refine r_bipush (v := 10) (pc := 12) X dX11_reads_12 (by decide) ?_
    refine b_icmp_ne (tgt := 31) (pc := 14) X dX11_reads_14 (by decide) hf (fun hf => ?_) (fun hf => ?_)
    · refine r_aload_n (x := some 39) (pc := 17) X dX11_reads_17 0 rfl ?_
      refine r_iload_n (pc := 18) X dX11_reads_18 1 rfl ?_
      refine bnd hf (fun x22 h22 hf => ?_)
      refine r_callVi (As := [.int p1]) (st := []) (pc := 19) X (c_f_M_goesOn h22) rfl w_1280 w_1282 w_38 w_84 w_1283 hdV_X11_goesOn (Rc.s rfl ce_39) (by decide) (by decide) (by decide) (Nat.le_of_ble_eq_true rfl) dX11_reads_19 rfl ?_
      refine b_if_eq (tgt := 27) (pc := 22) X dX11_reads_22 (by decide) hf (fun hf => ?_) (fun hf => ?_)
      · refine r_aload_n (x := some 39) (pc := 27) X dX11_reads_27 0 rfl ?_
        refine bnd hf (fun x23 h23 hf => ?_)
        refine r_callVv (As := []) (st := []) (pc := 28) X (c_f_M_endsNumber h23) rfl w_1287 w_1289 w_39 w_84 w_1290 hdV_X11_endsNumber (Rc.s rfl ce_39) (by decide) (by decide) (by decide) (Nat.le_of_ble_eq_true rfl) dX11_reads_28 rfl ?_
        exact c_f_M_reads_b31 X hr hf
      · refine r_iconst (v := 1) (pc := 25) X dX11_reads_25 (by decide) ?_
        exact e_zret (pc := 26) X hr (by decide) hf (Nat.le_refl _) (Nat.le_refl _) dX11_reads_26
    · exact c_f_M_reads_b31 X hr hf
