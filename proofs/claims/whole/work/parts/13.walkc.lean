/-! f_M_turns -/
theorem dX11_turns_0 : decode cX11_turns 0 = .ok (.aload_n 0, 1) := by decide +kernel
theorem dX11_turns_1 : decode cX11_turns 1 = .ok (.iload_n 1, 1) := by decide +kernel
theorem dX11_turns_2 : decode cX11_turns 2 = .ok (.putfield 106, 3) := by decide +kernel
theorem dX11_turns_5 : decode cX11_turns 5 = .ok (.aload_n 0, 1) := by decide +kernel
theorem dX11_turns_6 : decode cX11_turns 6 = .ok (.getfield 19, 3) := by decide +kernel
theorem dX11_turns_9 : decode cX11_turns 9 = .ok (.aload_n 0, 1) := by decide +kernel
theorem dX11_turns_10 : decode cX11_turns 10 = .ok (.getfield 106, 3) := by decide +kernel
theorem dX11_turns_13 : decode cX11_turns 13 = .ok (.iconst 0, 1) := by decide +kernel
theorem dX11_turns_14 : decode cX11_turns 14 = .ok (.iastore, 1) := by decide +kernel
theorem dX11_turns_15 : decode cX11_turns 15 = .ok (.aload_n 0, 1) := by decide +kernel
theorem dX11_turns_16 : decode cX11_turns 16 = .ok (.getfield 28, 3) := by decide +kernel
theorem dX11_turns_19 : decode cX11_turns 19 = .ok (.aload_n 0, 1) := by decide +kernel
theorem dX11_turns_20 : decode cX11_turns 20 = .ok (.getfield 106, 3) := by decide +kernel
theorem dX11_turns_23 : decode cX11_turns 23 = .ok (.iconst 0, 1) := by decide +kernel
theorem dX11_turns_24 : decode cX11_turns 24 = .ok (.iastore, 1) := by decide +kernel
theorem dX11_turns_25 : decode cX11_turns 25 = .ok (.aload_n 0, 1) := by decide +kernel
theorem dX11_turns_26 : decode cX11_turns 26 = .ok (.iconst 0, 1) := by decide +kernel
theorem dX11_turns_27 : decode cX11_turns 27 = .ok (.putfield 113, 3) := by decide +kernel
theorem dX11_turns_30 : decode cX11_turns 30 = .ok (.aload_n 0, 1) := by decide +kernel
theorem dX11_turns_31 : decode cX11_turns 31 = .ok (.iconst 0, 1) := by decide +kernel
theorem dX11_turns_32 : decode cX11_turns 32 = .ok (.putfield 158, 3) := by decide +kernel
theorem dX11_turns_35 : decode cX11_turns 35 = .ok (.aload_n 0, 1) := by decide +kernel
theorem dX11_turns_36 : decode cX11_turns 36 = .ok (.getfield 37, 3) := by decide +kernel
theorem dX11_turns_39 : decode cX11_turns 39 = .ok (.iconst 0, 1) := by decide +kernel
theorem dX11_turns_40 : decode cX11_turns 40 = .ok (.iconst 0, 1) := by decide +kernel
theorem dX11_turns_41 : decode cX11_turns 41 = .ok (.bastore, 1) := by decide +kernel
theorem dX11_turns_42 : decode cX11_turns 42 = .ok (.aload_n 0, 1) := by decide +kernel
theorem dX11_turns_43 : decode cX11_turns 43 = .ok (.iconst 0, 1) := by decide +kernel
theorem dX11_turns_44 : decode cX11_turns 44 = .ok (.putfield 120, 3) := by decide +kernel
theorem dX11_turns_47 : decode cX11_turns 47 = .ok (.iconst 0, 1) := by decide +kernel
theorem dX11_turns_48 : decode cX11_turns 48 = .ok (.istore_n 2, 1) := by decide +kernel
theorem dX11_turns_49 : decode cX11_turns 49 = .ok (.iload_n 2, 1) := by decide +kernel
theorem dX11_turns_50 : decode cX11_turns 50 = .ok (.aload_n 0, 1) := by decide +kernel
theorem dX11_turns_51 : decode cX11_turns 51 = .ok (.getfield 218, 3) := by decide +kernel
theorem dX11_turns_54 : decode cX11_turns 54 = .ok (.if_icmp .ge 24, 3) := by decide +kernel
theorem dX11_turns_57 : decode cX11_turns 57 = .ok (.aload_n 0, 1) := by decide +kernel
theorem dX11_turns_58 : decode cX11_turns 58 = .ok (.aload_n 0, 1) := by decide +kernel
theorem dX11_turns_59 : decode cX11_turns 59 = .ok (.getfield 7, 3) := by decide +kernel
theorem dX11_turns_62 : decode cX11_turns 62 = .ok (.iload_n 2, 1) := by decide +kernel
theorem dX11_turns_63 : decode cX11_turns 63 = .ok (.iaload, 1) := by decide +kernel
theorem dX11_turns_64 : decode cX11_turns 64 = .ok (.invokevirtual 221, 3) := by decide +kernel
theorem dX11_turns_67 : decode cX11_turns 67 = .ok (.ifCond .ne 5, 3) := by decide +kernel
theorem dX11_turns_70 : decode cX11_turns 70 = .ok (.iload_n 2, 1) := by decide +kernel
theorem dX11_turns_71 : decode cX11_turns 71 = .ok (.ireturn, 1) := by decide +kernel
theorem dX11_turns_72 : decode cX11_turns 72 = .ok (.iinc 2 1, 3) := by decide +kernel
theorem dX11_turns_75 : decode cX11_turns 75 = .ok (.goto (-26), 3) := by decide +kernel
theorem dX11_turns_78 : decode cX11_turns 78 = .ok (.aload_n 0, 1) := by decide +kernel
theorem dX11_turns_79 : decode cX11_turns 79 = .ok (.getfield 120, 3) := by decide +kernel
theorem dX11_turns_82 : decode cX11_turns 82 = .ok (.iconst 1, 1) := by decide +kernel
theorem dX11_turns_83 : decode cX11_turns 83 = .ok (.if_icmp .ne 7, 3) := by decide +kernel
theorem dX11_turns_86 : decode cX11_turns 86 = .ok (.aload_n 0, 1) := by decide +kernel
theorem dX11_turns_87 : decode cX11_turns 87 = .ok (.invokevirtual 197, 3) := by decide +kernel
theorem dX11_turns_90 : decode cX11_turns 90 = .ok (.aload_n 0, 1) := by decide +kernel
theorem dX11_turns_91 : decode cX11_turns 91 = .ok (.getfield 120, 3) := by decide +kernel
theorem dX11_turns_94 : decode cX11_turns 94 = .ok (.iconst 2, 1) := by decide +kernel
theorem dX11_turns_95 : decode cX11_turns 95 = .ok (.if_icmp .ne 10, 3) := by decide +kernel
theorem dX11_turns_98 : decode cX11_turns 98 = .ok (.aload_n 0, 1) := by decide +kernel
theorem dX11_turns_99 : decode cX11_turns 99 = .ok (.getfield 158, 3) := by decide +kernel
theorem dX11_turns_102 : decode cX11_turns 102 = .ok (.ifCond .le 8, 3) := by decide +kernel
theorem dX11_turns_105 : decode cX11_turns 105 = .ok (.aload_n 0, 1) := by decide +kernel
theorem dX11_turns_106 : decode cX11_turns 106 = .ok (.getfield 218, 3) := by decide +kernel
theorem dX11_turns_109 : decode cX11_turns 109 = .ok (.ireturn, 1) := by decide +kernel
theorem dX11_turns_110 : decode cX11_turns 110 = .ok (.aload_n 0, 1) := by decide +kernel
theorem dX11_turns_111 : decode cX11_turns 111 = .ok (.iconst 1, 1) := by decide +kernel
theorem dX11_turns_112 : decode cX11_turns 112 = .ok (.invokevirtual 164, 3) := by decide +kernel
theorem dX11_turns_115 : decode cX11_turns 115 = .ok (.iconst (-1), 1) := by decide +kernel
theorem dX11_turns_116 : decode cX11_turns 116 = .ok (.ireturn, 1) := by decide +kernel
def f_M_turns_b90 (F : Nat) (s : St)  : Option (Int32 × St) :=
  if (gI s 2505) = 2 then
    (if (gI s 2518) ≤ 0 then
      ((f_M_putsWaiting F s 1).bind fun x12 => (some ((-1), x12)))
    else
      (some ((gI s 2497), s)))
  else
    (some ((gI s 2497), s))
def f_M_turns_b49 (F : Nat) : Nat → St → Int32 → Option (Int32 × St)
  | 0, _, _ => none
  | n + 1, s, l2 =>
    if (gI s 2497) ≤ l2 then
      (if (gI s 2505) = 1 then
        ((f_M_endsNumber F s).bind fun x11 => (f_M_turns_b90 F x11))
      else
        (f_M_turns_b90 F s))
    else
      ((ix 40 l2).bind fun j13 => ((f_M_reads F s (gA s 40 j13)).bind fun x14 => (if x14.1 = 0 then
        (some (l2, x14.2))
      else
        (f_M_turns_b49 F n x14.2 (l2 + 1)))))
def f_M_turns (F : Nat) (s : St) (p1 : Int32) : Option (Int32 × St) :=
  lt (sI s 2504 p1) fun s1 => ((ix 5 (gI s1 2504)).bind fun j2 => (lt (sA s1 43 j2 0) fun s3 => ((ix 5 (gI s3 2504)).bind fun j4 => (lt (sA s3 46 j4 0) fun s5 => (lt (sI s5 2515 0) fun s6 => (lt (sI s6 2518 0) fun s7 => ((ix 64 0).bind fun j8 => (lt (sA s7 49 j8 0) fun s9 => (lt (sI s9 2505 0) fun s10 => (f_M_turns_b49 F F s10 0))))))))))
set_option maxHeartbeats 1000000 in
theorem c_f_M_turns_b90 {F : Nat} {Γ : Ga} {D : DD} {B : Nat} {r : Int32} {s' : St} (X : Cx Γ RX11 cX11_turns 3 D B { frames := 5, cells := 0, slots := 0, locals := 108 }) (hr : (Gme Γ).sig.returnType = (some .int)) {s : St}  (hf : f_M_turns_b90 F s  = some (r, s')) : V Γ D B true 3 (QM Γ D B true s' (some (.int r)) 0 0) 0 0 s 90 [(0, .ref (B + 39))] [] := by
  unfold f_M_turns_b90 at hf
  refine r_aload_n (x := some 39) (pc := 90) X dX11_turns_90 0 rfl ?_
  refine r_get (j := 9) (pc := 91) X ce_39 rfl inT11 (by decide) w_1089 rfl dX11_turns_91 ?_
  refine r_iconst (v := 2) (pc := 94) X dX11_turns_94 (by decide) ?_
  refine b_icmp_ne (tgt := 105) (pc := 95) X dX11_turns_95 (by decide) hf (fun hf => ?_) (fun hf => ?_)
  · refine r_aload_n (x := some 39) (pc := 98) X dX11_turns_98 0 rfl ?_
    refine r_get (j := 22) (pc := 99) X ce_39 rfl inT11 (by decide) w_1102 rfl dX11_turns_99 ?_
    refine b_if_le (tgt := 110) (pc := 102) X dX11_turns_102 (by decide) hf (fun hf => ?_) (fun hf => ?_)
    · refine r_aload_n (x := some 39) (pc := 110) X dX11_turns_110 0 rfl ?_
      refine r_iconst (v := 1) (pc := 111) X dX11_turns_111 (by decide) ?_
      refine bnd hf (fun x12 h12 hf => ?_)
      refine r_callVv (As := [.int 1]) (st := []) (pc := 112) X (c_f_M_putsWaiting h12) rfl w_1321 w_1323 w_46 w_84 w_1324 hdV_X11_putsWaiting (Rc.s rfl ce_39) (by decide) (by decide) (by decide) (Nat.le_of_ble_eq_true rfl) dX11_turns_112 rfl ?_
      refine r_iconst (v := -1) (pc := 115) X dX11_turns_115 (by decide) ?_
      exact e_iret (pc := 116) X hr hf (Nat.le_refl _) (Nat.le_refl _) dX11_turns_116
    · refine r_aload_n (x := some 39) (pc := 105) X dX11_turns_105 0 rfl ?_
      refine r_get (j := 1) (pc := 106) X ce_39 rfl inT11 (by decide) w_1081 rfl dX11_turns_106 ?_
      exact e_iret (pc := 109) X hr hf (Nat.le_refl _) (Nat.le_refl _) dX11_turns_109
  · refine r_aload_n (x := some 39) (pc := 105) X dX11_turns_105 0 rfl ?_
    refine r_get (j := 1) (pc := 106) X ce_39 rfl inT11 (by decide) w_1081 rfl dX11_turns_106 ?_
    exact e_iret (pc := 109) X hr hf (Nat.le_refl _) (Nat.le_refl _) dX11_turns_109
set_option maxHeartbeats 1000000 in
theorem c_f_M_turns_b49 {F : Nat} {Γ : Ga} {D : DD} {B : Nat} {r : Int32} {s' : St} (X : Cx Γ RX11 cX11_turns 3 D B { frames := 5, cells := 0, slots := 0, locals := 108 }) (hr : (Gme Γ).sig.returnType = (some .int)) : ∀ (n : Nat) {s : St} {l2 : Int32}, f_M_turns_b49 F n s l2 = some (r, s') → V Γ D B true 3 (QM Γ D B true s' (some (.int r)) 0 0) 0 0 s 49 [(0, .ref (B + 39)), (2, .int l2)] [] := by
  intro n
  induction n with
  | zero => intro s l2 hf; rw [f_M_turns_b49] at hf; cases hf
  | succ n ih =>
    intro s l2 hf
    rw [f_M_turns_b49] at hf
    refine r_iload_n (pc := 49) X dX11_turns_49 1 rfl ?_
    refine r_aload_n (x := some 39) (pc := 50) X dX11_turns_50 0 rfl ?_
    refine r_get (j := 1) (pc := 51) X ce_39 rfl inT11 (by decide) w_1081 rfl dX11_turns_51 ?_
    refine b_icmp_ge (tgt := 78) (pc := 54) X dX11_turns_54 (by decide) hf (fun hf => ?_) (fun hf => ?_)
    · refine r_aload_n (x := some 39) (pc := 78) X dX11_turns_78 0 rfl ?_
      refine r_get (j := 9) (pc := 79) X ce_39 rfl inT11 (by decide) w_1089 rfl dX11_turns_79 ?_
      refine r_iconst (v := 1) (pc := 82) X dX11_turns_82 (by decide) ?_
      refine b_icmp_ne (tgt := 90) (pc := 83) X dX11_turns_83 (by decide) hf (fun hf => ?_) (fun hf => ?_)
      · refine r_aload_n (x := some 39) (pc := 86) X dX11_turns_86 0 rfl ?_
        refine bnd hf (fun x11 h11 hf => ?_)
        refine r_callVv (As := []) (st := []) (pc := 87) X (c_f_M_endsNumber h11) rfl w_1287 w_1289 w_39 w_84 w_1290 hdV_X11_endsNumber (Rc.s rfl ce_39) (by decide) (by decide) (by decide) (Nat.le_of_ble_eq_true rfl) dX11_turns_87 rfl ?_
        refine r_forget (lv' := [(0, .ref (B + 39))]) [0] rfl ?_
        exact c_f_M_turns_b90 X hr hf
      · refine r_forget (lv' := [(0, .ref (B + 39))]) [0] rfl ?_
        exact c_f_M_turns_b90 X hr hf
    · refine r_aload_n (x := some 39) (pc := 57) X dX11_turns_57 0 rfl ?_
      refine r_aload_n (x := some 39) (pc := 58) X dX11_turns_58 0 rfl ?_
      refine r_get (j := 0) (pc := 59) X ce_39 rfl inT11 (by decide) w_1080 rfl dX11_turns_59 ?_
      refine r_iload_n (pc := 62) X dX11_turns_62 1 rfl ?_
      refine b_iald (pc := 63) X ce_40 dX11_turns_63 hf (fun j13 hf => ?_)
      refine bnd hf (fun x14 h14 hf => ?_)
      refine r_callVi (As := [.int (gA s 40 j13)]) (st := []) (pc := 64) X (c_f_M_reads h14) rfl w_1276 w_1278 w_37 w_84 w_1279 hdV_X11_reads (Rc.s rfl ce_39) (by decide) (by decide) (by decide) (Nat.le_of_ble_eq_true rfl) dX11_turns_64 rfl ?_
      refine b_if_ne (tgt := 72) (pc := 67) X dX11_turns_67 (by decide) hf (fun hf => ?_) (fun hf => ?_)
      · refine r_iload_n (pc := 70) X dX11_turns_70 1 rfl ?_
        exact e_iret (pc := 71) X hr hf (Nat.le_refl _) (Nat.le_refl _) dX11_turns_71
      · refine r_iinc (v := l2 + 1) (lv' := [(0, .ref (B + 39)), (2, .int (l2 + 1))]) (pc := 72) X dX11_turns_72 1 rfl rfl (by decide) [1, 0] rfl ?_
        refine r_goto (tgt := 49) (pc := 75) X dX11_turns_75 (by decide) ?_
        exact ih hf
set_option maxHeartbeats 1000000 in
theorem c_f_M_turns {F : Nat} {s : St} {p1 : Int32} {r : Int32} {s' : St} (hf : f_M_turns F s p1 = some (r, s')) : CC true yX11_turns (Cond.code yX11_turns cX11_turns 3 (some .int)) 5 108 (fun B => [.ref (B + 39), .int p1]) s (fun B => (some (.int r))) s' 0 0 := by
  refine CC.of (fun B => [(0, .ref (B + 39)), (1, .int p1)]) (by decide +kernel) (fun _ => rfl) (fun _ => (by simp [lg_sl, rfB_cat, catI, catL, catR])) (fun Γ D B X hr hin => ?_)
  have X : Cx Γ RX11 cX11_turns 3 D B { frames := 5, cells := 0, slots := 0, locals := 108 } := X
  unfold f_M_turns at hf
  refine r_aload_n (x := some 39) (pc := 0) X dX11_turns_0 0 rfl ?_
  refine r_iload_n (pc := 1) X dX11_turns_1 1 rfl ?_
  refine b_put (j := 8) (pc := 2) X ce_39 rfl inT11 tyX11 tyX11_ok nmX11 (by decide) w_1088 rfl (tyX11_ok 8 (by decide)) rfl rfl (Nat.le_of_ble_eq_true rfl) (cp_2504 _) rfl rfl dX11_turns_2 hf (fun s1 hf => ?_)
  refine r_aload_n (x := some 39) (pc := 5) X dX11_turns_5 0 rfl ?_
  refine r_get (j := 4) (pc := 6) X ce_39 rfl inT11 (by decide) w_1084 rfl dX11_turns_6 ?_
  refine r_aload_n (x := some 39) (pc := 9) X dX11_turns_9 0 rfl ?_
  refine r_get (j := 8) (pc := 10) X ce_39 rfl inT11 (by decide) w_1088 rfl dX11_turns_10 ?_
  refine r_iconst (v := 0) (pc := 13) X dX11_turns_13 (by decide) ?_
  refine b_iast (pc := 14) X ce_43 (fun _ => ca_43 _ _) dX11_turns_14 hf (fun j2 s3 hf => ?_)
  refine r_aload_n (x := some 39) (pc := 15) X dX11_turns_15 0 rfl ?_
  refine r_get (j := 7) (pc := 16) X ce_39 rfl inT11 (by decide) w_1087 rfl dX11_turns_16 ?_
  refine r_aload_n (x := some 39) (pc := 19) X dX11_turns_19 0 rfl ?_
  refine r_get (j := 8) (pc := 20) X ce_39 rfl inT11 (by decide) w_1088 rfl dX11_turns_20 ?_
  refine r_iconst (v := 0) (pc := 23) X dX11_turns_23 (by decide) ?_
  refine b_iast (pc := 24) X ce_46 (fun _ => ca_46 _ _) dX11_turns_24 hf (fun j4 s5 hf => ?_)
  refine r_aload_n (x := some 39) (pc := 25) X dX11_turns_25 0 rfl ?_
  refine r_iconst (v := 0) (pc := 26) X dX11_turns_26 (by decide) ?_
  refine b_put (j := 19) (pc := 27) X ce_39 rfl inT11 tyX11 tyX11_ok nmX11 (by decide) w_1099 rfl (tyX11_ok 19 (by decide)) rfl rfl (Nat.le_of_ble_eq_true rfl) (cp_2515 _) rfl rfl dX11_turns_27 hf (fun s6 hf => ?_)
  refine r_aload_n (x := some 39) (pc := 30) X dX11_turns_30 0 rfl ?_
  refine r_iconst (v := 0) (pc := 31) X dX11_turns_31 (by decide) ?_
  refine b_put (j := 22) (pc := 32) X ce_39 rfl inT11 tyX11 tyX11_ok nmX11 (by decide) w_1102 rfl (tyX11_ok 22 (by decide)) rfl rfl (Nat.le_of_ble_eq_true rfl) (cp_2518 _) rfl rfl dX11_turns_32 hf (fun s7 hf => ?_)
  refine r_aload_n (x := some 39) (pc := 35) X dX11_turns_35 0 rfl ?_
  refine r_get (j := 24) (pc := 36) X ce_39 rfl inT11 (by decide) w_1104 rfl dX11_turns_36 ?_
  refine r_iconst (v := 0) (pc := 39) X dX11_turns_39 (by decide) ?_
  refine r_iconst (v := 0) (pc := 40) X dX11_turns_40 (by decide) ?_
  refine b_zast (pc := 41) X ce_49 (fun _ => ca_49 _ _) dX11_turns_41 hf (by decide) (fun j8 s9 hf => ?_)
  refine r_aload_n (x := some 39) (pc := 42) X dX11_turns_42 0 rfl ?_
  refine r_iconst (v := 0) (pc := 43) X dX11_turns_43 (by decide) ?_
  refine b_put (j := 9) (pc := 44) X ce_39 rfl inT11 tyX11 tyX11_ok nmX11 (by decide) w_1089 rfl (tyX11_ok 9 (by decide)) rfl rfl (Nat.le_of_ble_eq_true rfl) (cp_2505 _) rfl rfl dX11_turns_44 hf (fun s10 hf => ?_)
  refine r_iconst (v := 0) (pc := 47) X dX11_turns_47 (by decide) ?_
  refine r_istore_n (pc := 48) (lv' := [(0, .ref (B + 39)), (2, .int 0)]) X dX11_turns_48 (by decide) [1, 0] rfl ?_
  exact c_f_M_turns_b49 X hr _ hf
/-! f_M_fieldIn -/
theorem dX11_fieldIn_0 : decode cX11_fieldIn 0 = .ok (.iload_n 2, 1) := by decide +kernel
theorem dX11_fieldIn_1 : decode cX11_fieldIn 1 = .ok (.ifCond .ne 12, 3) := by decide +kernel
theorem dX11_fieldIn_4 : decode cX11_fieldIn 4 = .ok (.aload_n 0, 1) := by decide +kernel
theorem dX11_fieldIn_5 : decode cX11_fieldIn 5 = .ok (.getfield 48, 3) := by decide +kernel
theorem dX11_fieldIn_8 : decode cX11_fieldIn 8 = .ok (.iload_n 1, 1) := by decide +kernel
theorem dX11_fieldIn_9 : decode cX11_fieldIn 9 = .ok (.iaload, 1) := by decide +kernel
theorem dX11_fieldIn_10 : decode cX11_fieldIn 10 = .ok (.goto 40, 3) := by decide +kernel
theorem dX11_fieldIn_13 : decode cX11_fieldIn 13 = .ok (.iload_n 2, 1) := by decide +kernel
theorem dX11_fieldIn_14 : decode cX11_fieldIn 14 = .ok (.iconst 1, 1) := by decide +kernel
theorem dX11_fieldIn_15 : decode cX11_fieldIn 15 = .ok (.if_icmp .ne 12, 3) := by decide +kernel
theorem dX11_fieldIn_18 : decode cX11_fieldIn 18 = .ok (.aload_n 0, 1) := by decide +kernel
theorem dX11_fieldIn_19 : decode cX11_fieldIn 19 = .ok (.getfield 51, 3) := by decide +kernel
theorem dX11_fieldIn_22 : decode cX11_fieldIn 22 = .ok (.iload_n 1, 1) := by decide +kernel
theorem dX11_fieldIn_23 : decode cX11_fieldIn 23 = .ok (.iaload, 1) := by decide +kernel
theorem dX11_fieldIn_24 : decode cX11_fieldIn 24 = .ok (.goto 26, 3) := by decide +kernel
theorem dX11_fieldIn_27 : decode cX11_fieldIn 27 = .ok (.iload_n 2, 1) := by decide +kernel
theorem dX11_fieldIn_28 : decode cX11_fieldIn 28 = .ok (.iconst 2, 1) := by decide +kernel
theorem dX11_fieldIn_29 : decode cX11_fieldIn 29 = .ok (.if_icmp .ne 12, 3) := by decide +kernel
theorem dX11_fieldIn_32 : decode cX11_fieldIn 32 = .ok (.aload_n 0, 1) := by decide +kernel
theorem dX11_fieldIn_33 : decode cX11_fieldIn 33 = .ok (.getfield 54, 3) := by decide +kernel
theorem dX11_fieldIn_36 : decode cX11_fieldIn 36 = .ok (.iload_n 1, 1) := by decide +kernel
theorem dX11_fieldIn_37 : decode cX11_fieldIn 37 = .ok (.iaload, 1) := by decide +kernel
theorem dX11_fieldIn_38 : decode cX11_fieldIn 38 = .ok (.goto 12, 3) := by decide +kernel
theorem dX11_fieldIn_41 : decode cX11_fieldIn 41 = .ok (.aload_n 0, 1) := by decide +kernel
theorem dX11_fieldIn_42 : decode cX11_fieldIn 42 = .ok (.getfield 57, 3) := by decide +kernel
theorem dX11_fieldIn_45 : decode cX11_fieldIn 45 = .ok (.iload_n 1, 1) := by decide +kernel
theorem dX11_fieldIn_46 : decode cX11_fieldIn 46 = .ok (.iaload, 1) := by decide +kernel
theorem dX11_fieldIn_47 : decode cX11_fieldIn 47 = .ok (.bipush 24, 2) := by decide +kernel
theorem dX11_fieldIn_49 : decode cX11_fieldIn 49 = .ok (.irem, 1) := by decide +kernel
theorem dX11_fieldIn_50 : decode cX11_fieldIn 50 = .ok (.ireturn, 1) := by decide +kernel
def f_M_fieldIn (F : Nat) (s : St) (p1 : Int32) (p2 : Int32) : Option (Int32 × St) :=
  if p2 = 0 then
    ((ix 100 p1).bind fun j1 => (some ((gA s 52 j1), s)))
  else
    (if p2 = 1 then
      ((ix 100 p1).bind fun j2 => (some ((gA s 53 j2), s)))
    else
      (if p2 = 2 then
        ((ix 100 p1).bind fun j3 => (some ((gA s 54 j3), s)))
      else
        ((ix 100 p1).bind fun j4 => (some (((gA s 55 j4) - (gA s 55 j4) / 24 * 24), s)))))
set_option maxHeartbeats 1000000 in
theorem c_f_M_fieldIn {F : Nat} {s : St} {p1 : Int32} {p2 : Int32} {r : Int32} {s' : St} (hf : f_M_fieldIn F s p1 p2 = some (r, s')) : CC true yX11_fieldIn (Cond.code yX11_fieldIn cX11_fieldIn 3 (some .int)) 0 0 (fun B => [.ref (B + 39), .int p1, .int p2]) s (fun B => (some (.int r))) s' 0 0 := by
  refine CC.of (fun B => [(0, .ref (B + 39)), (1, .int p1), (2, .int p2)]) (by decide +kernel) (fun _ => rfl) (fun _ => (by simp [lg_sl, rfB_cat, catI, catL, catR])) (fun Γ D B X hr hin => ?_)
  have X : Cx Γ RX11 cX11_fieldIn 3 D B { frames := 0, cells := 0, slots := 0, locals := 0 } := X
  unfold f_M_fieldIn at hf
  refine r_iload_n (pc := 0) X dX11_fieldIn_0 2 rfl ?_
  refine b_if_ne (tgt := 13) (pc := 1) X dX11_fieldIn_1 (by decide) hf (fun hf => ?_) (fun hf => ?_)
  · refine r_aload_n (x := some 39) (pc := 4) X dX11_fieldIn_4 0 rfl ?_
    refine r_get (j := 32) (pc := 5) X ce_39 rfl inT11 (by decide) w_1112 rfl dX11_fieldIn_5 ?_
    refine r_iload_n (pc := 8) X dX11_fieldIn_8 1 rfl ?_
    refine b_iald (pc := 9) X ce_52 dX11_fieldIn_9 hf (fun j1 hf => ?_)
    refine r_goto (tgt := 50) (pc := 10) X dX11_fieldIn_10 (by decide) ?_
    exact e_iret (pc := 50) X hr hf (Nat.le_refl _) (Nat.le_refl _) dX11_fieldIn_50
  · refine r_iload_n (pc := 13) X dX11_fieldIn_13 2 rfl ?_
    refine r_iconst (v := 1) (pc := 14) X dX11_fieldIn_14 (by decide) ?_
    refine b_icmp_ne (tgt := 27) (pc := 15) X dX11_fieldIn_15 (by decide) hf (fun hf => ?_) (fun hf => ?_)
    · refine r_aload_n (x := some 39) (pc := 18) X dX11_fieldIn_18 0 rfl ?_
      refine r_get (j := 33) (pc := 19) X ce_39 rfl inT11 (by decide) w_1113 rfl dX11_fieldIn_19 ?_
      refine r_iload_n (pc := 22) X dX11_fieldIn_22 1 rfl ?_
      refine b_iald (pc := 23) X ce_53 dX11_fieldIn_23 hf (fun j2 hf => ?_)
      refine r_goto (tgt := 50) (pc := 24) X dX11_fieldIn_24 (by decide) ?_
      exact e_iret (pc := 50) X hr hf (Nat.le_refl _) (Nat.le_refl _) dX11_fieldIn_50
    · refine r_iload_n (pc := 27) X dX11_fieldIn_27 2 rfl ?_
      refine r_iconst (v := 2) (pc := 28) X dX11_fieldIn_28 (by decide) ?_
      refine b_icmp_ne (tgt := 41) (pc := 29) X dX11_fieldIn_29 (by decide) hf (fun hf => ?_) (fun hf => ?_)
      · refine r_aload_n (x := some 39) (pc := 32) X dX11_fieldIn_32 0 rfl ?_
        refine r_get (j := 34) (pc := 33) X ce_39 rfl inT11 (by decide) w_1114 rfl dX11_fieldIn_33 ?_
        refine r_iload_n (pc := 36) X dX11_fieldIn_36 1 rfl ?_
        refine b_iald (pc := 37) X ce_54 dX11_fieldIn_37 hf (fun j3 hf => ?_)
        refine r_goto (tgt := 50) (pc := 38) X dX11_fieldIn_38 (by decide) ?_
        exact e_iret (pc := 50) X hr hf (Nat.le_refl _) (Nat.le_refl _) dX11_fieldIn_50
      · refine r_aload_n (x := some 39) (pc := 41) X dX11_fieldIn_41 0 rfl ?_
        refine r_get (j := 35) (pc := 42) X ce_39 rfl inT11 (by decide) w_1115 rfl dX11_fieldIn_42 ?_
        refine r_iload_n (pc := 45) X dX11_fieldIn_45 1 rfl ?_
        refine b_iald (pc := 46) X ce_55 dX11_fieldIn_46 hf (fun j4 hf => ?_)
        refine r_bipush (v := 24) (pc := 47) X dX11_fieldIn_47 (by decide) ?_
        refine r_irem (pc := 49) X dX11_fieldIn_49 (by decide) ?_
        exact e_iret (pc := 50) X hr hf (Nat.le_refl _) (Nat.le_refl _) dX11_fieldIn_50
/-! f_M_areSo -/
theorem dX11_areSo_0 : decode cX11_areSo 0 = .ok (.iload_n 2, 1) := by decide +kernel
theorem dX11_areSo_1 : decode cX11_areSo 1 = .ok (.bipush 60, 2) := by decide +kernel
theorem dX11_areSo_3 : decode cX11_areSo 3 = .ok (.if_icmp .ne 17, 3) := by decide +kernel
theorem dX11_areSo_6 : decode cX11_areSo 6 = .ok (.lload_n 0, 1) := by decide +kernel
theorem dX11_areSo_7 : decode cX11_areSo 7 = .ok (.lload_n 3, 1) := by decide +kernel
theorem dX11_areSo_8 : decode cX11_areSo 8 = .ok (.lcmp, 1) := by decide +kernel
theorem dX11_areSo_9 : decode cX11_areSo 9 = .ok (.ifCond .ge 7, 3) := by decide +kernel
theorem dX11_areSo_12 : decode cX11_areSo 12 = .ok (.iconst 1, 1) := by decide +kernel
theorem dX11_areSo_13 : decode cX11_areSo 13 = .ok (.goto 38, 3) := by decide +kernel
theorem dX11_areSo_16 : decode cX11_areSo 16 = .ok (.iconst 0, 1) := by decide +kernel
theorem dX11_areSo_17 : decode cX11_areSo 17 = .ok (.goto 34, 3) := by decide +kernel
theorem dX11_areSo_20 : decode cX11_areSo 20 = .ok (.iload_n 2, 1) := by decide +kernel
theorem dX11_areSo_21 : decode cX11_areSo 21 = .ok (.bipush 62, 2) := by decide +kernel
theorem dX11_areSo_23 : decode cX11_areSo 23 = .ok (.if_icmp .ne 17, 3) := by decide +kernel
theorem dX11_areSo_26 : decode cX11_areSo 26 = .ok (.lload_n 0, 1) := by decide +kernel
theorem dX11_areSo_27 : decode cX11_areSo 27 = .ok (.lload_n 3, 1) := by decide +kernel
theorem dX11_areSo_28 : decode cX11_areSo 28 = .ok (.lcmp, 1) := by decide +kernel
theorem dX11_areSo_29 : decode cX11_areSo 29 = .ok (.ifCond .le 7, 3) := by decide +kernel
theorem dX11_areSo_32 : decode cX11_areSo 32 = .ok (.iconst 1, 1) := by decide +kernel
theorem dX11_areSo_33 : decode cX11_areSo 33 = .ok (.goto 18, 3) := by decide +kernel
theorem dX11_areSo_36 : decode cX11_areSo 36 = .ok (.iconst 0, 1) := by decide +kernel
theorem dX11_areSo_37 : decode cX11_areSo 37 = .ok (.goto 14, 3) := by decide +kernel
theorem dX11_areSo_40 : decode cX11_areSo 40 = .ok (.lload_n 0, 1) := by decide +kernel
theorem dX11_areSo_41 : decode cX11_areSo 41 = .ok (.lload_n 3, 1) := by decide +kernel
theorem dX11_areSo_42 : decode cX11_areSo 42 = .ok (.lcmp, 1) := by decide +kernel
theorem dX11_areSo_43 : decode cX11_areSo 43 = .ok (.ifCond .ne 7, 3) := by decide +kernel
theorem dX11_areSo_46 : decode cX11_areSo 46 = .ok (.iconst 1, 1) := by decide +kernel
theorem dX11_areSo_47 : decode cX11_areSo 47 = .ok (.goto 4, 3) := by decide +kernel
theorem dX11_areSo_50 : decode cX11_areSo 50 = .ok (.iconst 0, 1) := by decide +kernel
theorem dX11_areSo_51 : decode cX11_areSo 51 = .ok (.ireturn, 1) := by decide +kernel
def f_M_areSo (F : Nat) (s : St) (p0 : Int64) (p2 : Int32) (p3 : Int64) : Option (Int32 × St) :=
  if p2 = 60 then
    (if p3 ≤ p0 then
      (some (0, s))
    else
      (some (1, s)))
  else
    (if p2 = 62 then
      (if p0 ≤ p3 then
        (some (0, s))
      else
        (some (1, s)))
    else
      (if p0 = p3 then
        (some (1, s))
      else
        (some (0, s))))
set_option maxHeartbeats 1000000 in
theorem c_f_M_areSo {F : Nat} {s : St} {p0 : Int64} {p2 : Int32} {p3 : Int64} {r : Int32} {s' : St} (hf : f_M_areSo F s p0 p2 p3 = some (r, s')) : CC true yX11_areSo (Cond.code yX11_areSo cX11_areSo 5 (some .boolean)) 0 0 (fun B => [.long p0, .int p2, .long p3]) s (fun B => (some (.int r))) s' 0 0 := by
  refine CC.of (fun B => [(0, .long p0), (2, .int p2), (3, .long p3)]) (by decide +kernel) (fun _ => rfl) (fun _ => (by simp [lg_sl, rfB_cat, catI, catL, catR])) (fun Γ D B X hr hin => ?_)
  have X : Cx Γ RX11 cX11_areSo 5 D B { frames := 0, cells := 0, slots := 0, locals := 0 } := X
  unfold f_M_areSo at hf
  refine r_iload_n (pc := 0) X dX11_areSo_0 1 rfl ?_
  refine r_bipush (v := 60) (pc := 1) X dX11_areSo_1 (by decide) ?_
  refine b_icmp_ne (tgt := 20) (pc := 3) X dX11_areSo_3 (by decide) hf (fun hf => ?_) (fun hf => ?_)
  · refine r_lload_n (pc := 6) X dX11_areSo_6 0 rfl ?_
    refine r_lload_n (pc := 7) X dX11_areSo_7 2 rfl ?_
    refine b_lcmp_ge (tgt := 16) (pc := 8) X dX11_areSo_8 dX11_areSo_9 (by decide) hf (fun hf => ?_) (fun hf => ?_)
    · refine r_iconst (v := 0) (pc := 16) X dX11_areSo_16 (by decide) ?_
      refine r_goto (tgt := 51) (pc := 17) X dX11_areSo_17 (by decide) ?_
      exact e_zret (pc := 51) X hr (by decide) hf (Nat.le_refl _) (Nat.le_refl _) dX11_areSo_51
    · refine r_iconst (v := 1) (pc := 12) X dX11_areSo_12 (by decide) ?_
      refine r_goto (tgt := 51) (pc := 13) X dX11_areSo_13 (by decide) ?_
      exact e_zret (pc := 51) X hr (by decide) hf (Nat.le_refl _) (Nat.le_refl _) dX11_areSo_51
  · refine r_iload_n (pc := 20) X dX11_areSo_20 1 rfl ?_
    refine r_bipush (v := 62) (pc := 21) X dX11_areSo_21 (by decide) ?_
    refine b_icmp_ne (tgt := 40) (pc := 23) X dX11_areSo_23 (by decide) hf (fun hf => ?_) (fun hf => ?_)
    · refine r_lload_n (pc := 26) X dX11_areSo_26 0 rfl ?_
      refine r_lload_n (pc := 27) X dX11_areSo_27 2 rfl ?_
      refine b_lcmp_le (tgt := 36) (pc := 28) X dX11_areSo_28 dX11_areSo_29 (by decide) hf (fun hf => ?_) (fun hf => ?_)
      · refine r_iconst (v := 0) (pc := 36) X dX11_areSo_36 (by decide) ?_
        refine r_goto (tgt := 51) (pc := 37) X dX11_areSo_37 (by decide) ?_
        exact e_zret (pc := 51) X hr (by decide) hf (Nat.le_refl _) (Nat.le_refl _) dX11_areSo_51
      · refine r_iconst (v := 1) (pc := 32) X dX11_areSo_32 (by decide) ?_
        refine r_goto (tgt := 51) (pc := 33) X dX11_areSo_33 (by decide) ?_
        exact e_zret (pc := 51) X hr (by decide) hf (Nat.le_refl _) (Nat.le_refl _) dX11_areSo_51
    · refine r_lload_n (pc := 40) X dX11_areSo_40 0 rfl ?_
      refine r_lload_n (pc := 41) X dX11_areSo_41 2 rfl ?_
      refine b_lcmp_ne (tgt := 50) (pc := 42) X dX11_areSo_42 dX11_areSo_43 (by decide) hf (fun hf => ?_) (fun hf => ?_)
      · refine r_iconst (v := 1) (pc := 46) X dX11_areSo_46 (by decide) ?_
        refine r_goto (tgt := 51) (pc := 47) X dX11_areSo_47 (by decide) ?_
        exact e_zret (pc := 51) X hr (by decide) hf (Nat.le_refl _) (Nat.le_refl _) dX11_areSo_51
      · refine r_iconst (v := 0) (pc := 50) X dX11_areSo_50 (by decide) ?_
        exact e_zret (pc := 51) X hr (by decide) hf (Nat.le_refl _) (Nat.le_refl _) dX11_areSo_51
/-! f_M_holds -/
theorem dX11_holds_0 : decode cX11_holds 0 = .ok (.iconst 0, 1) := by decide +kernel
theorem dX11_holds_1 : decode cX11_holds 1 = .ok (.istore 5, 2) := by decide +kernel
theorem dX11_holds_3 : decode cX11_holds 3 = .ok (.bipush 64, 2) := by decide +kernel
theorem dX11_holds_5 : decode cX11_holds 5 = .ok (.iload_n 1, 1) := by decide +kernel
theorem dX11_holds_6 : decode cX11_holds 6 = .ok (.imul, 1) := by decide +kernel
theorem dX11_holds_7 : decode cX11_holds 7 = .ok (.iload_n 2, 1) := by decide +kernel
theorem dX11_holds_8 : decode cX11_holds 8 = .ok (.iadd, 1) := by decide +kernel
theorem dX11_holds_9 : decode cX11_holds 9 = .ok (.istore 6, 2) := by decide +kernel
theorem dX11_holds_11 : decode cX11_holds 11 = .ok (.iload 6, 2) := by decide +kernel
theorem dX11_holds_13 : decode cX11_holds 13 = .ok (.bipush 64, 2) := by decide +kernel
theorem dX11_holds_15 : decode cX11_holds 15 = .ok (.iload_n 1, 1) := by decide +kernel
theorem dX11_holds_16 : decode cX11_holds 16 = .ok (.imul, 1) := by decide +kernel
theorem dX11_holds_17 : decode cX11_holds 17 = .ok (.iload_n 3, 1) := by decide +kernel
theorem dX11_holds_18 : decode cX11_holds 18 = .ok (.iadd, 1) := by decide +kernel
theorem dX11_holds_19 : decode cX11_holds 19 = .ok (.if_icmp .ge 196, 3) := by decide +kernel
theorem dX11_holds_22 : decode cX11_holds 22 = .ok (.aload_n 0, 1) := by decide +kernel
theorem dX11_holds_23 : decode cX11_holds 23 = .ok (.getfield 22, 3) := by decide +kernel
theorem dX11_holds_26 : decode cX11_holds 26 = .ok (.iload 6, 2) := by decide +kernel
theorem dX11_holds_28 : decode cX11_holds 28 = .ok (.iaload, 1) := by decide +kernel
theorem dX11_holds_29 : decode cX11_holds 29 = .ok (.istore 7, 2) := by decide +kernel
theorem dX11_holds_31 : decode cX11_holds 31 = .ok (.iload 7, 2) := by decide +kernel
theorem dX11_holds_33 : decode cX11_holds 33 = .ok (.iconst 4, 1) := by decide +kernel
theorem dX11_holds_34 : decode cX11_holds 34 = .ok (.if_icmp .ne 63, 3) := by decide +kernel
theorem dX11_holds_37 : decode cX11_holds 37 = .ok (.aload_n 0, 1) := by decide +kernel
theorem dX11_holds_38 : decode cX11_holds 38 = .ok (.getfield 45, 3) := by decide +kernel
theorem dX11_holds_41 : decode cX11_holds 41 = .ok (.iload 5, 2) := by decide +kernel
theorem dX11_holds_43 : decode cX11_holds 43 = .ok (.aload_n 0, 1) := by decide +kernel
theorem dX11_holds_44 : decode cX11_holds 44 = .ok (.iload 4, 2) := by decide +kernel
theorem dX11_holds_46 : decode cX11_holds 46 = .ok (.aload_n 0, 1) := by decide +kernel
theorem dX11_holds_47 : decode cX11_holds 47 = .ok (.getfield 25, 3) := by decide +kernel
theorem dX11_holds_50 : decode cX11_holds 50 = .ok (.iload 6, 2) := by decide +kernel
theorem dX11_holds_52 : decode cX11_holds 52 = .ok (.iaload, 1) := by decide +kernel
theorem dX11_holds_53 : decode cX11_holds 53 = .ok (.iconst 3, 1) := by decide +kernel
theorem dX11_holds_54 : decode cX11_holds 54 = .ok (.iand, 1) := by decide +kernel
theorem dX11_holds_55 : decode cX11_holds 55 = .ok (.invokevirtual 224, 3) := by decide +kernel
theorem dX11_holds_58 : decode cX11_holds 58 = .ok (.i2l, 1) := by decide +kernel
theorem dX11_holds_59 : decode cX11_holds 59 = .ok (.aload_n 0, 1) := by decide +kernel
theorem dX11_holds_60 : decode cX11_holds 60 = .ok (.getfield 25, 3) := by decide +kernel
theorem dX11_holds_63 : decode cX11_holds 63 = .ok (.iload 6, 2) := by decide +kernel
theorem dX11_holds_65 : decode cX11_holds 65 = .ok (.iaload, 1) := by decide +kernel
theorem dX11_holds_66 : decode cX11_holds 66 = .ok (.iconst 2, 1) := by decide +kernel
theorem dX11_holds_67 : decode cX11_holds 67 = .ok (.ishr, 1) := by decide +kernel
theorem dX11_holds_68 : decode cX11_holds 68 = .ok (.sipush 255, 3) := by decide +kernel
theorem dX11_holds_71 : decode cX11_holds 71 = .ok (.iand, 1) := by decide +kernel
theorem dX11_holds_72 : decode cX11_holds 72 = .ok (.aload_n 0, 1) := by decide +kernel
theorem dX11_holds_73 : decode cX11_holds 73 = .ok (.getfield 25, 3) := by decide +kernel
theorem dX11_holds_76 : decode cX11_holds 76 = .ok (.iload 6, 2) := by decide +kernel
theorem dX11_holds_78 : decode cX11_holds 78 = .ok (.iaload, 1) := by decide +kernel
theorem dX11_holds_79 : decode cX11_holds 79 = .ok (.bipush 10, 2) := by decide +kernel
theorem dX11_holds_81 : decode cX11_holds 81 = .ok (.ishr, 1) := by decide +kernel
theorem dX11_holds_82 : decode cX11_holds 82 = .ok (.sipush 10000, 3) := by decide +kernel
theorem dX11_holds_85 : decode cX11_holds 85 = .ok (.isub, 1) := by decide +kernel
theorem dX11_holds_86 : decode cX11_holds 86 = .ok (.i2l, 1) := by decide +kernel
theorem dX11_holds_87 : decode cX11_holds 87 = .ok (.invokestatic 228, 3) := by decide +kernel
theorem dX11_holds_90 : decode cX11_holds 90 = .ok (.bastore, 1) := by decide +kernel
theorem dX11_holds_91 : decode cX11_holds 91 = .ok (.iinc 5 1, 3) := by decide +kernel
theorem dX11_holds_94 : decode cX11_holds 94 = .ok (.goto 115, 3) := by decide +kernel
theorem dX11_holds_97 : decode cX11_holds 97 = .ok (.iload 7, 2) := by decide +kernel
theorem dX11_holds_99 : decode cX11_holds 99 = .ok (.bipush 33, 2) := by decide +kernel
theorem dX11_holds_101 : decode cX11_holds 101 = .ok (.if_icmp .ne 32, 3) := by decide +kernel
theorem dX11_holds_104 : decode cX11_holds 104 = .ok (.aload_n 0, 1) := by decide +kernel
theorem dX11_holds_105 : decode cX11_holds 105 = .ok (.getfield 45, 3) := by decide +kernel
theorem dX11_holds_108 : decode cX11_holds 108 = .ok (.iload 5, 2) := by decide +kernel
theorem dX11_holds_110 : decode cX11_holds 110 = .ok (.iconst 1, 1) := by decide +kernel
theorem dX11_holds_111 : decode cX11_holds 111 = .ok (.isub, 1) := by decide +kernel
theorem dX11_holds_112 : decode cX11_holds 112 = .ok (.aload_n 0, 1) := by decide +kernel
theorem dX11_holds_113 : decode cX11_holds 113 = .ok (.getfield 45, 3) := by decide +kernel
theorem dX11_holds_116 : decode cX11_holds 116 = .ok (.iload 5, 2) := by decide +kernel
theorem dX11_holds_118 : decode cX11_holds 118 = .ok (.iconst 1, 1) := by decide +kernel
theorem dX11_holds_119 : decode cX11_holds 119 = .ok (.isub, 1) := by decide +kernel
theorem dX11_holds_120 : decode cX11_holds 120 = .ok (.baload, 1) := by decide +kernel
theorem dX11_holds_121 : decode cX11_holds 121 = .ok (.ifCond .ne 7, 3) := by decide +kernel
theorem dX11_holds_124 : decode cX11_holds 124 = .ok (.iconst 1, 1) := by decide +kernel
theorem dX11_holds_125 : decode cX11_holds 125 = .ok (.goto 4, 3) := by decide +kernel
theorem dX11_holds_128 : decode cX11_holds 128 = .ok (.iconst 0, 1) := by decide +kernel
theorem dX11_holds_129 : decode cX11_holds 129 = .ok (.bastore, 1) := by decide +kernel
theorem dX11_holds_130 : decode cX11_holds 130 = .ok (.goto 79, 3) := by decide +kernel
theorem dX11_holds_133 : decode cX11_holds 133 = .ok (.iinc 5 (-1), 3) := by decide +kernel
theorem dX11_holds_136 : decode cX11_holds 136 = .ok (.aload_n 0, 1) := by decide +kernel
theorem dX11_holds_137 : decode cX11_holds 137 = .ok (.getfield 45, 3) := by decide +kernel
theorem dX11_holds_140 : decode cX11_holds 140 = .ok (.iload 5, 2) := by decide +kernel
theorem dX11_holds_142 : decode cX11_holds 142 = .ok (.iconst 1, 1) := by decide +kernel
theorem dX11_holds_143 : decode cX11_holds 143 = .ok (.isub, 1) := by decide +kernel
theorem dX11_holds_144 : decode cX11_holds 144 = .ok (.iload 7, 2) := by decide +kernel
theorem dX11_holds_146 : decode cX11_holds 146 = .ok (.bipush 38, 2) := by decide +kernel
theorem dX11_holds_148 : decode cX11_holds 148 = .ok (.if_icmp .ne 33, 3) := by decide +kernel
theorem dX11_holds_151 : decode cX11_holds 151 = .ok (.aload_n 0, 1) := by decide +kernel
theorem dX11_holds_152 : decode cX11_holds 152 = .ok (.getfield 45, 3) := by decide +kernel
theorem dX11_holds_155 : decode cX11_holds 155 = .ok (.iload 5, 2) := by decide +kernel
theorem dX11_holds_157 : decode cX11_holds 157 = .ok (.iconst 1, 1) := by decide +kernel
theorem dX11_holds_158 : decode cX11_holds 158 = .ok (.isub, 1) := by decide +kernel
theorem dX11_holds_159 : decode cX11_holds 159 = .ok (.baload, 1) := by decide +kernel
theorem dX11_holds_160 : decode cX11_holds 160 = .ok (.ifCond .eq 17, 3) := by decide +kernel
theorem dX11_holds_163 : decode cX11_holds 163 = .ok (.aload_n 0, 1) := by decide +kernel
theorem dX11_holds_164 : decode cX11_holds 164 = .ok (.getfield 45, 3) := by decide +kernel
theorem dX11_holds_167 : decode cX11_holds 167 = .ok (.iload 5, 2) := by decide +kernel
theorem dX11_holds_169 : decode cX11_holds 169 = .ok (.baload, 1) := by decide +kernel
theorem dX11_holds_170 : decode cX11_holds 170 = .ok (.ifCond .eq 7, 3) := by decide +kernel
theorem dX11_holds_173 : decode cX11_holds 173 = .ok (.iconst 1, 1) := by decide +kernel
theorem dX11_holds_174 : decode cX11_holds 174 = .ok (.goto 34, 3) := by decide +kernel
theorem dX11_holds_177 : decode cX11_holds 177 = .ok (.iconst 0, 1) := by decide +kernel
theorem dX11_holds_178 : decode cX11_holds 178 = .ok (.goto 30, 3) := by decide +kernel
theorem dX11_holds_181 : decode cX11_holds 181 = .ok (.aload_n 0, 1) := by decide +kernel
theorem dX11_holds_182 : decode cX11_holds 182 = .ok (.getfield 45, 3) := by decide +kernel
theorem dX11_holds_185 : decode cX11_holds 185 = .ok (.iload 5, 2) := by decide +kernel
theorem dX11_holds_187 : decode cX11_holds 187 = .ok (.iconst 1, 1) := by decide +kernel
theorem dX11_holds_188 : decode cX11_holds 188 = .ok (.isub, 1) := by decide +kernel
theorem dX11_holds_189 : decode cX11_holds 189 = .ok (.baload, 1) := by decide +kernel
theorem dX11_holds_190 : decode cX11_holds 190 = .ok (.ifCond .ne 13, 3) := by decide +kernel
theorem dX11_holds_193 : decode cX11_holds 193 = .ok (.aload_n 0, 1) := by decide +kernel
theorem dX11_holds_194 : decode cX11_holds 194 = .ok (.getfield 45, 3) := by decide +kernel
theorem dX11_holds_197 : decode cX11_holds 197 = .ok (.iload 5, 2) := by decide +kernel
theorem dX11_holds_199 : decode cX11_holds 199 = .ok (.baload, 1) := by decide +kernel
theorem dX11_holds_200 : decode cX11_holds 200 = .ok (.ifCond .eq 7, 3) := by decide +kernel
theorem dX11_holds_203 : decode cX11_holds 203 = .ok (.iconst 1, 1) := by decide +kernel
theorem dX11_holds_204 : decode cX11_holds 204 = .ok (.goto 4, 3) := by decide +kernel
theorem dX11_holds_207 : decode cX11_holds 207 = .ok (.iconst 0, 1) := by decide +kernel
theorem dX11_holds_208 : decode cX11_holds 208 = .ok (.bastore, 1) := by decide +kernel
theorem dX11_holds_209 : decode cX11_holds 209 = .ok (.iinc 6 1, 3) := by decide +kernel
theorem dX11_holds_212 : decode cX11_holds 212 = .ok (.goto (-201), 3) := by decide +kernel
theorem dX11_holds_215 : decode cX11_holds 215 = .ok (.iload 5, 2) := by decide +kernel
theorem dX11_holds_217 : decode cX11_holds 217 = .ok (.ifCond .eq 12, 3) := by decide +kernel
theorem dX11_holds_220 : decode cX11_holds 220 = .ok (.aload_n 0, 1) := by decide +kernel
theorem dX11_holds_221 : decode cX11_holds 221 = .ok (.getfield 45, 3) := by decide +kernel
theorem dX11_holds_224 : decode cX11_holds 224 = .ok (.iconst 0, 1) := by decide +kernel
theorem dX11_holds_225 : decode cX11_holds 225 = .ok (.baload, 1) := by decide +kernel
theorem dX11_holds_226 : decode cX11_holds 226 = .ok (.ifCond .eq 7, 3) := by decide +kernel
theorem dX11_holds_229 : decode cX11_holds 229 = .ok (.iconst 1, 1) := by decide +kernel
theorem dX11_holds_230 : decode cX11_holds 230 = .ok (.goto 4, 3) := by decide +kernel
theorem dX11_holds_233 : decode cX11_holds 233 = .ok (.iconst 0, 1) := by decide +kernel
theorem dX11_holds_234 : decode cX11_holds 234 = .ok (.ireturn, 1) := by decide +kernel
def f_M_holds_b11 (F : Nat) : Nat → St → Int32 → Int32 → Int32 → Int32 → Int32 → Option (Int32 × St)
  | 0, _, _, _, _, _, _ => none
  | n + 1, s, l1, l3, l4, l5, l6 =>
    if (((64 : Int32) * l1) + l3) ≤ l6 then
      (if l5 = 0 then
        (some (1, s))
      else
        ((ix 64 0).bind fun j1 => (if (gA s 51 j1) = 0 then
          (some (0, s))
        else
          (some (1, s)))))
    else
      ((ix 320 l6).bind fun j2 => (if (gA s 44 j2) = 4 then
        ((ix 320 l6).bind fun j3 => ((f_M_fieldIn F s l4 ((gA s 45 j3) &&& 3)).bind fun x4 => ((ix 320 l6).bind fun j5 => ((ix 320 l6).bind fun j6 => ((f_M_areSo F x4.2 x4.1.toInt64 (((gA x4.2 45 j5) >>> ((2 : Int32) &&& 31)) &&& 255) ((((gA x4.2 45 j6) >>> ((10 : Int32) &&& 31)) - 10000).toInt64)).bind fun x7 => (if x7.1 = 0 ∨ x7.1 = 1 then ((ix 64 l5).bind fun j8 => (lt (sA x7.2 51 j8 x7.1) fun s9 => (f_M_holds_b11 F n s9 l1 l3 l4 (l5 + 1) (l6 + 1)))) else none))))))
      else
        (if (gA s 44 j2) = 33 then
          ((ix 64 (l5 - 1)).bind fun j10 => (if (gA s 51 j10) = 0 then
            ((ix 64 (l5 - 1)).bind fun j11 => (lt (sA s 51 j11 1) fun s12 => (f_M_holds_b11 F n s12 l1 l3 l4 l5 (l6 + 1))))
          else
            ((ix 64 (l5 - 1)).bind fun j13 => (lt (sA s 51 j13 0) fun s14 => (f_M_holds_b11 F n s14 l1 l3 l4 l5 (l6 + 1))))))
        else
          (if (gA s 44 j2) = 38 then
            ((ix 64 ((l5 + (-1)) - 1)).bind fun j15 => (if (gA s 51 j15) = 0 then
              ((ix 64 ((l5 + (-1)) - 1)).bind fun j16 => (lt (sA s 51 j16 0) fun s17 => (f_M_holds_b11 F n s17 l1 l3 l4 (l5 + (-1)) (l6 + 1))))
            else
              ((ix 64 (l5 + (-1))).bind fun j18 => (if (gA s 51 j18) = 0 then
                ((ix 64 ((l5 + (-1)) - 1)).bind fun j19 => (lt (sA s 51 j19 0) fun s20 => (f_M_holds_b11 F n s20 l1 l3 l4 (l5 + (-1)) (l6 + 1))))
              else
                ((ix 64 ((l5 + (-1)) - 1)).bind fun j21 => (lt (sA s 51 j21 1) fun s22 => (f_M_holds_b11 F n s22 l1 l3 l4 (l5 + (-1)) (l6 + 1))))))))
          else
            ((ix 64 ((l5 + (-1)) - 1)).bind fun j23 => (if (gA s 51 j23) = 0 then
              ((ix 64 (l5 + (-1))).bind fun j24 => (if (gA s 51 j24) = 0 then
                ((ix 64 ((l5 + (-1)) - 1)).bind fun j25 => (lt (sA s 51 j25 0) fun s26 => (f_M_holds_b11 F n s26 l1 l3 l4 (l5 + (-1)) (l6 + 1))))
              else
                ((ix 64 ((l5 + (-1)) - 1)).bind fun j27 => (lt (sA s 51 j27 1) fun s28 => (f_M_holds_b11 F n s28 l1 l3 l4 (l5 + (-1)) (l6 + 1))))))
            else
              ((ix 64 ((l5 + (-1)) - 1)).bind fun j29 => (lt (sA s 51 j29 1) fun s30 => (f_M_holds_b11 F n s30 l1 l3 l4 (l5 + (-1)) (l6 + 1))))))))))
def f_M_holds (F : Nat) (s : St) (p1 : Int32) (p2 : Int32) (p3 : Int32) (p4 : Int32) : Option (Int32 × St) :=
  f_M_holds_b11 F F s p1 p3 p4 0 (((64 : Int32) * p1) + p2)
set_option maxHeartbeats 1000000 in
theorem c_f_M_holds_b11 {F : Nat} {Γ : Ga} {D : DD} {B : Nat} {r : Int32} {s' : St} (X : Cx Γ RX11 cX11_holds 8 D B { frames := 1, cells := 0, slots := 0, locals := 24 }) (hr : (Gme Γ).sig.returnType = (some .boolean)) : ∀ (n : Nat) {s : St} {l1 : Int32} {l3 : Int32} {l4 : Int32} {l5 : Int32} {l6 : Int32}, f_M_holds_b11 F n s l1 l3 l4 l5 l6 = some (r, s') → V Γ D B true 8 (QM Γ D B true s' (some (.int r)) 0 0) 0 0 s 11 [(0, .ref (B + 39)), (1, .int l1), (3, .int l3), (4, .int l4), (5, .int l5), (6, .int l6)] [] := by
  intro n
  induction n with
  | zero => intro s l1 l3 l4 l5 l6 hf; rw [f_M_holds_b11] at hf; cases hf
  | succ n ih =>
    intro s l1 l3 l4 l5 l6 hf
    rw [f_M_holds_b11] at hf
    refine r_iload (pc := 11) X dX11_holds_11 5 rfl ?_
    refine r_bipush (v := 64) (pc := 13) X dX11_holds_13 (by decide) ?_
    refine r_iload_n (pc := 15) X dX11_holds_15 1 rfl ?_
    refine r_imul (pc := 16) X dX11_holds_16 ?_
    refine r_iload_n (pc := 17) X dX11_holds_17 2 rfl ?_
    refine r_iadd (pc := 18) X dX11_holds_18 ?_
    refine b_icmp_ge (tgt := 215) (pc := 19) X dX11_holds_19 (by decide) hf (fun hf => ?_) (fun hf => ?_)
    · refine r_iload (pc := 215) X dX11_holds_215 4 rfl ?_
      refine b_if_eq (tgt := 229) (pc := 217) X dX11_holds_217 (by decide) hf (fun hf => ?_) (fun hf => ?_)
      · refine r_iconst (v := 1) (pc := 229) X dX11_holds_229 (by decide) ?_
        refine r_goto (tgt := 234) (pc := 230) X dX11_holds_230 (by decide) ?_
        exact e_zret (pc := 234) X hr (by decide) hf (Nat.le_refl _) (Nat.le_refl _) dX11_holds_234
      · refine r_aload_n (x := some 39) (pc := 220) X dX11_holds_220 0 rfl ?_
        refine r_get (j := 27) (pc := 221) X ce_39 rfl inT11 (by decide) w_1107 rfl dX11_holds_221 ?_
        refine r_iconst (v := 0) (pc := 224) X dX11_holds_224 (by decide) ?_
        refine b_zald (pc := 225) X ce_51 dX11_holds_225 hf (fun j1 hf => ?_)
        refine b_if_eq (tgt := 233) (pc := 226) X dX11_holds_226 (by decide) hf (fun hf => ?_) (fun hf => ?_)
        · refine r_iconst (v := 0) (pc := 233) X dX11_holds_233 (by decide) ?_
          exact e_zret (pc := 234) X hr (by decide) hf (Nat.le_refl _) (Nat.le_refl _) dX11_holds_234
        · refine r_iconst (v := 1) (pc := 229) X dX11_holds_229 (by decide) ?_
          refine r_goto (tgt := 234) (pc := 230) X dX11_holds_230 (by decide) ?_
          exact e_zret (pc := 234) X hr (by decide) hf (Nat.le_refl _) (Nat.le_refl _) dX11_holds_234
    · refine r_aload_n (x := some 39) (pc := 22) X dX11_holds_22 0 rfl ?_
      refine r_get (j := 5) (pc := 23) X ce_39 rfl inT11 (by decide) w_1085 rfl dX11_holds_23 ?_
      refine r_iload (pc := 26) X dX11_holds_26 5 rfl ?_
      refine b_iald (pc := 28) X ce_44 dX11_holds_28 hf (fun j2 hf => ?_)
      refine r_istore (pc := 29) (lv' := [(0, .ref (B + 39)), (1, .int l1), (3, .int l3), (4, .int l4), (5, .int l5), (6, .int l6), (7, .int (gA s 44 j2))]) X dX11_holds_29 (by decide) [1, 2, 3, 4, 5, 6, 0] rfl ?_
      refine r_iload (pc := 31) X dX11_holds_31 6 rfl ?_
      refine r_iconst (v := 4) (pc := 33) X dX11_holds_33 (by decide) ?_
      refine b_icmp_ne (tgt := 97) (pc := 34) X dX11_holds_34 (by decide) hf (fun hf => ?_) (fun hf => ?_)
      · refine r_aload_n (x := some 39) (pc := 37) X dX11_holds_37 0 rfl ?_
        refine r_get (j := 27) (pc := 38) X ce_39 rfl inT11 (by decide) w_1107 rfl dX11_holds_38 ?_
        refine r_iload (pc := 41) X dX11_holds_41 4 rfl ?_
        refine r_aload_n (x := some 39) (pc := 43) X dX11_holds_43 0 rfl ?_
        refine r_iload (pc := 44) X dX11_holds_44 3 rfl ?_
        refine r_aload_n (x := some 39) (pc := 46) X dX11_holds_46 0 rfl ?_
        refine r_get (j := 6) (pc := 47) X ce_39 rfl inT11 (by decide) w_1086 rfl dX11_holds_47 ?_
        refine r_iload (pc := 50) X dX11_holds_50 5 rfl ?_
        refine b_iald (pc := 52) X ce_45 dX11_holds_52 hf (fun j3 hf => ?_)
        refine r_iconst (v := 3) (pc := 53) X dX11_holds_53 (by decide) ?_
        refine r_iand (pc := 54) X dX11_holds_54 ?_
        refine bnd hf (fun x4 h4 hf => ?_)
        refine r_callVi (As := [.int l4, .int ((gA s 45 j3) &&& 3)]) (st := [.int l5, .ref (B + 51)]) (pc := 55) X (c_f_M_fieldIn h4) rfl w_1379 w_1381 w_58 w_84 w_1382 hdV_X11_fieldIn (Rc.s rfl ce_39) (by decide) (by decide) (by decide) (Nat.le_of_ble_eq_true rfl) dX11_holds_55 rfl ?_
        refine r_i2l (pc := 58) X dX11_holds_58 ?_
        refine r_aload_n (x := some 39) (pc := 59) X dX11_holds_59 0 rfl ?_
        refine r_get (j := 6) (pc := 60) X ce_39 rfl inT11 (by decide) w_1086 rfl dX11_holds_60 ?_
        refine r_iload (pc := 63) X dX11_holds_63 5 rfl ?_
        refine b_iald (pc := 65) X ce_45 dX11_holds_65 hf (fun j5 hf => ?_)
        refine r_iconst (v := 2) (pc := 66) X dX11_holds_66 (by decide) ?_
        refine r_ishr (pc := 67) X dX11_holds_67 ?_
        refine r_sipush (v := 255) (pc := 68) X dX11_holds_68 (by decide) ?_
        refine r_iand (pc := 71) X dX11_holds_71 ?_
        refine r_aload_n (x := some 39) (pc := 72) X dX11_holds_72 0 rfl ?_
        refine r_get (j := 6) (pc := 73) X ce_39 rfl inT11 (by decide) w_1086 rfl dX11_holds_73 ?_
        refine r_iload (pc := 76) X dX11_holds_76 5 rfl ?_
        refine b_iald (pc := 78) X ce_45 dX11_holds_78 hf (fun j6 hf => ?_)
        refine r_bipush (v := 10) (pc := 79) X dX11_holds_79 (by decide) ?_
        refine r_ishr (pc := 81) X dX11_holds_81 ?_
        refine r_sipush (v := 10000) (pc := 82) X dX11_holds_82 (by decide) ?_
        refine r_isub (pc := 85) X dX11_holds_85 ?_
        refine r_i2l (pc := 86) X dX11_holds_86 ?_
        refine bnd hf (fun x7 h7 hf => ?_)
        refine r_callSi (As := [.long x4.1.toInt64, .int (((gA x4.2 45 j5) >>> ((2 : Int32) &&& 31)) &&& 255), .long ((((gA x4.2 45 j6) >>> ((10 : Int32) &&& 31)) - 10000).toInt64)]) (st := [.int l5, .ref (B + 51)]) (pc := 87) X (c_f_M_areSo h7) rfl w_1383 w_1384 w_84 w_1385 hdS_X11_areSo (by decide) (by decide) (by decide) (Nat.le_of_ble_eq_true rfl) dX11_holds_87 rfl ?_
        refine ifo hf (fun hx hf => ?_)
        refine b_zast (pc := 90) X ce_51 (fun _ => ca_51 _ _) dX11_holds_90 hf hx (fun j8 s9 hf => ?_)
        refine r_iinc (v := l5 + 1) (lv' := [(0, .ref (B + 39)), (1, .int l1), (3, .int l3), (4, .int l4), (5, .int (l5 + 1)), (6, .int l6)]) (pc := 91) X dX11_holds_91 4 rfl rfl (by decide) [1, 2, 3, 4, 0, 5] rfl ?_
        refine r_goto (tgt := 209) (pc := 94) X dX11_holds_94 (by decide) ?_
        refine r_iinc (v := l6 + 1) (lv' := [(0, .ref (B + 39)), (1, .int l1), (3, .int l3), (4, .int l4), (5, .int (l5 + 1)), (6, .int (l6 + 1))]) (pc := 209) X dX11_holds_209 5 rfl rfl (by decide) [1, 2, 3, 4, 5, 0] rfl ?_
        refine r_goto (tgt := 11) (pc := 212) X dX11_holds_212 (by decide) ?_
        exact ih hf
      · refine r_iload (pc := 97) X dX11_holds_97 6 rfl ?_
        refine r_bipush (v := 33) (pc := 99) X dX11_holds_99 (by decide) ?_
        refine b_icmp_ne (tgt := 133) (pc := 101) X dX11_holds_101 (by decide) hf (fun hf => ?_) (fun hf => ?_)
        · refine r_aload_n (x := some 39) (pc := 104) X dX11_holds_104 0 rfl ?_
          refine r_get (j := 27) (pc := 105) X ce_39 rfl inT11 (by decide) w_1107 rfl dX11_holds_105 ?_
          refine r_iload (pc := 108) X dX11_holds_108 4 rfl ?_
          refine r_iconst (v := 1) (pc := 110) X dX11_holds_110 (by decide) ?_
          refine r_isub (pc := 111) X dX11_holds_111 ?_
          refine r_aload_n (x := some 39) (pc := 112) X dX11_holds_112 0 rfl ?_
          refine r_get (j := 27) (pc := 113) X ce_39 rfl inT11 (by decide) w_1107 rfl dX11_holds_113 ?_
          refine r_iload (pc := 116) X dX11_holds_116 4 rfl ?_
          refine r_iconst (v := 1) (pc := 118) X dX11_holds_118 (by decide) ?_
          refine r_isub (pc := 119) X dX11_holds_119 ?_
          refine b_zald (pc := 120) X ce_51 dX11_holds_120 hf (fun j10 hf => ?_)
          refine b_if_ne (tgt := 128) (pc := 121) X dX11_holds_121 (by decide) hf (fun hf => ?_) (fun hf => ?_)
          · refine r_iconst (v := 1) (pc := 124) X dX11_holds_124 (by decide) ?_
            refine r_goto (tgt := 129) (pc := 125) X dX11_holds_125 (by decide) ?_
            refine b_zast (pc := 129) X ce_51 (fun _ => ca_51 _ _) dX11_holds_129 hf (by decide) (fun j11 s12 hf => ?_)
            refine r_goto (tgt := 209) (pc := 130) X dX11_holds_130 (by decide) ?_
            refine r_iinc (v := l6 + 1) (lv' := [(0, .ref (B + 39)), (1, .int l1), (3, .int l3), (4, .int l4), (5, .int l5), (6, .int (l6 + 1))]) (pc := 209) X dX11_holds_209 5 rfl rfl (by decide) [1, 2, 3, 4, 5, 0] rfl ?_
            refine r_goto (tgt := 11) (pc := 212) X dX11_holds_212 (by decide) ?_
            exact ih hf
          · refine r_iconst (v := 0) (pc := 128) X dX11_holds_128 (by decide) ?_
            refine b_zast (pc := 129) X ce_51 (fun _ => ca_51 _ _) dX11_holds_129 hf (by decide) (fun j13 s14 hf => ?_)
            refine r_goto (tgt := 209) (pc := 130) X dX11_holds_130 (by decide) ?_
            refine r_iinc (v := l6 + 1) (lv' := [(0, .ref (B + 39)), (1, .int l1), (3, .int l3), (4, .int l4), (5, .int l5), (6, .int (l6 + 1))]) (pc := 209) X dX11_holds_209 5 rfl rfl (by decide) [1, 2, 3, 4, 5, 0] rfl ?_
            refine r_goto (tgt := 11) (pc := 212) X dX11_holds_212 (by decide) ?_
            exact ih hf
        · refine r_iinc (v := l5 + (-1)) (lv' := [(0, .ref (B + 39)), (1, .int l1), (3, .int l3), (4, .int l4), (5, .int (l5 + (-1))), (6, .int l6), (7, .int (gA s 44 j2))]) (pc := 133) X dX11_holds_133 4 rfl rfl (by decide) [1, 2, 3, 4, 0, 5, 6] rfl ?_
          refine r_aload_n (x := some 39) (pc := 136) X dX11_holds_136 0 rfl ?_
          refine r_get (j := 27) (pc := 137) X ce_39 rfl inT11 (by decide) w_1107 rfl dX11_holds_137 ?_
          refine r_iload (pc := 140) X dX11_holds_140 4 rfl ?_
          refine r_iconst (v := 1) (pc := 142) X dX11_holds_142 (by decide) ?_
          refine r_isub (pc := 143) X dX11_holds_143 ?_
          refine r_iload (pc := 144) X dX11_holds_144 6 rfl ?_
          refine r_bipush (v := 38) (pc := 146) X dX11_holds_146 (by decide) ?_
          refine b_icmp_ne (tgt := 181) (pc := 148) X dX11_holds_148 (by decide) hf (fun hf => ?_) (fun hf => ?_)
          · refine r_aload_n (x := some 39) (pc := 151) X dX11_holds_151 0 rfl ?_
            refine r_get (j := 27) (pc := 152) X ce_39 rfl inT11 (by decide) w_1107 rfl dX11_holds_152 ?_
            refine r_iload (pc := 155) X dX11_holds_155 4 rfl ?_
            refine r_iconst (v := 1) (pc := 157) X dX11_holds_157 (by decide) ?_
            refine r_isub (pc := 158) X dX11_holds_158 ?_
            refine b_zald (pc := 159) X ce_51 dX11_holds_159 hf (fun j15 hf => ?_)
            refine b_if_eq (tgt := 177) (pc := 160) X dX11_holds_160 (by decide) hf (fun hf => ?_) (fun hf => ?_)
            · refine r_iconst (v := 0) (pc := 177) X dX11_holds_177 (by decide) ?_
              refine r_goto (tgt := 208) (pc := 178) X dX11_holds_178 (by decide) ?_
              refine b_zast (pc := 208) X ce_51 (fun _ => ca_51 _ _) dX11_holds_208 hf (by decide) (fun j16 s17 hf => ?_)
              refine r_iinc (v := l6 + 1) (lv' := [(0, .ref (B + 39)), (1, .int l1), (3, .int l3), (4, .int l4), (5, .int (l5 + (-1))), (6, .int (l6 + 1))]) (pc := 209) X dX11_holds_209 5 rfl rfl (by decide) [1, 2, 3, 4, 5, 0] rfl ?_
              refine r_goto (tgt := 11) (pc := 212) X dX11_holds_212 (by decide) ?_
              exact ih hf
            · refine r_aload_n (x := some 39) (pc := 163) X dX11_holds_163 0 rfl ?_
              refine r_get (j := 27) (pc := 164) X ce_39 rfl inT11 (by decide) w_1107 rfl dX11_holds_164 ?_
              refine r_iload (pc := 167) X dX11_holds_167 4 rfl ?_
              refine b_zald (pc := 169) X ce_51 dX11_holds_169 hf (fun j18 hf => ?_)
              refine b_if_eq (tgt := 177) (pc := 170) X dX11_holds_170 (by decide) hf (fun hf => ?_) (fun hf => ?_)
              · refine r_iconst (v := 0) (pc := 177) X dX11_holds_177 (by decide) ?_
                refine r_goto (tgt := 208) (pc := 178) X dX11_holds_178 (by decide) ?_
                refine b_zast (pc := 208) X ce_51 (fun _ => ca_51 _ _) dX11_holds_208 hf (by decide) (fun j19 s20 hf => ?_)
                refine r_iinc (v := l6 + 1) (lv' := [(0, .ref (B + 39)), (1, .int l1), (3, .int l3), (4, .int l4), (5, .int (l5 + (-1))), (6, .int (l6 + 1))]) (pc := 209) X dX11_holds_209 5 rfl rfl (by decide) [1, 2, 3, 4, 5, 0] rfl ?_
                refine r_goto (tgt := 11) (pc := 212) X dX11_holds_212 (by decide) ?_
                exact ih hf
              · refine r_iconst (v := 1) (pc := 173) X dX11_holds_173 (by decide) ?_
                refine r_goto (tgt := 208) (pc := 174) X dX11_holds_174 (by decide) ?_
                refine b_zast (pc := 208) X ce_51 (fun _ => ca_51 _ _) dX11_holds_208 hf (by decide) (fun j21 s22 hf => ?_)
                refine r_iinc (v := l6 + 1) (lv' := [(0, .ref (B + 39)), (1, .int l1), (3, .int l3), (4, .int l4), (5, .int (l5 + (-1))), (6, .int (l6 + 1))]) (pc := 209) X dX11_holds_209 5 rfl rfl (by decide) [1, 2, 3, 4, 5, 0] rfl ?_
                refine r_goto (tgt := 11) (pc := 212) X dX11_holds_212 (by decide) ?_
                exact ih hf
          · refine r_aload_n (x := some 39) (pc := 181) X dX11_holds_181 0 rfl ?_
            refine r_get (j := 27) (pc := 182) X ce_39 rfl inT11 (by decide) w_1107 rfl dX11_holds_182 ?_
            refine r_iload (pc := 185) X dX11_holds_185 4 rfl ?_
            refine r_iconst (v := 1) (pc := 187) X dX11_holds_187 (by decide) ?_
            refine r_isub (pc := 188) X dX11_holds_188 ?_
            refine b_zald (pc := 189) X ce_51 dX11_holds_189 hf (fun j23 hf => ?_)
            refine b_if_ne (tgt := 203) (pc := 190) X dX11_holds_190 (by decide) hf (fun hf => ?_) (fun hf => ?_)
            · refine r_aload_n (x := some 39) (pc := 193) X dX11_holds_193 0 rfl ?_
              refine r_get (j := 27) (pc := 194) X ce_39 rfl inT11 (by decide) w_1107 rfl dX11_holds_194 ?_
              refine r_iload (pc := 197) X dX11_holds_197 4 rfl ?_
              refine b_zald (pc := 199) X ce_51 dX11_holds_199 hf (fun j24 hf => ?_)
              refine b_if_eq (tgt := 207) (pc := 200) X dX11_holds_200 (by decide) hf (fun hf => ?_) (fun hf => ?_)
              · refine r_iconst (v := 0) (pc := 207) X dX11_holds_207 (by decide) ?_
                refine b_zast (pc := 208) X ce_51 (fun _ => ca_51 _ _) dX11_holds_208 hf (by decide) (fun j25 s26 hf => ?_)
                refine r_iinc (v := l6 + 1) (lv' := [(0, .ref (B + 39)), (1, .int l1), (3, .int l3), (4, .int l4), (5, .int (l5 + (-1))), (6, .int (l6 + 1))]) (pc := 209) X dX11_holds_209 5 rfl rfl (by decide) [1, 2, 3, 4, 5, 0] rfl ?_
                refine r_goto (tgt := 11) (pc := 212) X dX11_holds_212 (by decide) ?_
                exact ih hf
              · refine r_iconst (v := 1) (pc := 203) X dX11_holds_203 (by decide) ?_
                refine r_goto (tgt := 208) (pc := 204) X dX11_holds_204 (by decide) ?_
                refine b_zast (pc := 208) X ce_51 (fun _ => ca_51 _ _) dX11_holds_208 hf (by decide) (fun j27 s28 hf => ?_)
                refine r_iinc (v := l6 + 1) (lv' := [(0, .ref (B + 39)), (1, .int l1), (3, .int l3), (4, .int l4), (5, .int (l5 + (-1))), (6, .int (l6 + 1))]) (pc := 209) X dX11_holds_209 5 rfl rfl (by decide) [1, 2, 3, 4, 5, 0] rfl ?_
                refine r_goto (tgt := 11) (pc := 212) X dX11_holds_212 (by decide) ?_
                exact ih hf
            · refine r_iconst (v := 1) (pc := 203) X dX11_holds_203 (by decide) ?_
              refine r_goto (tgt := 208) (pc := 204) X dX11_holds_204 (by decide) ?_
              refine b_zast (pc := 208) X ce_51 (fun _ => ca_51 _ _) dX11_holds_208 hf (by decide) (fun j29 s30 hf => ?_)
              refine r_iinc (v := l6 + 1) (lv' := [(0, .ref (B + 39)), (1, .int l1), (3, .int l3), (4, .int l4), (5, .int (l5 + (-1))), (6, .int (l6 + 1))]) (pc := 209) X dX11_holds_209 5 rfl rfl (by decide) [1, 2, 3, 4, 5, 0] rfl ?_
              refine r_goto (tgt := 11) (pc := 212) X dX11_holds_212 (by decide) ?_
              exact ih hf
set_option maxHeartbeats 1000000 in
theorem c_f_M_holds {F : Nat} {s : St} {p1 : Int32} {p2 : Int32} {p3 : Int32} {p4 : Int32} {r : Int32} {s' : St} (hf : f_M_holds F s p1 p2 p3 p4 = some (r, s')) : CC true yX11_holds (Cond.code yX11_holds cX11_holds 8 (some .boolean)) 1 24 (fun B => [.ref (B + 39), .int p1, .int p2, .int p3, .int p4]) s (fun B => (some (.int r))) s' 0 0 := by
  refine CC.of (fun B => [(0, .ref (B + 39)), (1, .int p1), (2, .int p2), (3, .int p3), (4, .int p4)]) (by decide +kernel) (fun _ => rfl) (fun _ => (by simp [lg_sl, rfB_cat, catI, catL, catR])) (fun Γ D B X hr hin => ?_)
  have X : Cx Γ RX11 cX11_holds 8 D B { frames := 1, cells := 0, slots := 0, locals := 24 } := X
  unfold f_M_holds at hf
  refine r_iconst (v := 0) (pc := 0) X dX11_holds_0 (by decide) ?_
  refine r_istore (pc := 1) (lv' := [(0, .ref (B + 39)), (1, .int p1), (2, .int p2), (3, .int p3), (4, .int p4), (5, .int 0)]) X dX11_holds_1 (by decide) [1, 2, 3, 4, 5, 0] rfl ?_
  refine r_bipush (v := 64) (pc := 3) X dX11_holds_3 (by decide) ?_
  refine r_iload_n (pc := 5) X dX11_holds_5 1 rfl ?_
  refine r_imul (pc := 6) X dX11_holds_6 ?_
  refine r_iload_n (pc := 7) X dX11_holds_7 2 rfl ?_
  refine r_iadd (pc := 8) X dX11_holds_8 ?_
  refine r_istore (pc := 9) (lv' := [(0, .ref (B + 39)), (1, .int p1), (3, .int p3), (4, .int p4), (5, .int 0), (6, .int (((64 : Int32) * p1) + p2))]) X dX11_holds_9 (by decide) [1, 2, 4, 5, 6, 0] rfl ?_
  exact c_f_M_holds_b11 X hr _ hf
/-! f_M_isChosen -/
theorem dX11_isChosen_0 : decode cX11_isChosen 0 = .ok (.iload_n 2, 1) := by decide +kernel
theorem dX11_isChosen_1 : decode cX11_isChosen 1 = .ok (.bipush 64, 2) := by decide +kernel
theorem dX11_isChosen_3 : decode cX11_isChosen 3 = .ok (.iand, 1) := by decide +kernel
theorem dX11_isChosen_4 : decode cX11_isChosen 4 = .ok (.ifCond .ne 7, 3) := by decide +kernel
theorem dX11_isChosen_7 : decode cX11_isChosen 7 = .ok (.iconst 0, 1) := by decide +kernel
theorem dX11_isChosen_8 : decode cX11_isChosen 8 = .ok (.goto 10, 3) := by decide +kernel
theorem dX11_isChosen_11 : decode cX11_isChosen 11 = .ok (.iload_n 2, 1) := by decide +kernel
theorem dX11_isChosen_12 : decode cX11_isChosen 12 = .ok (.bipush 7, 2) := by decide +kernel
theorem dX11_isChosen_14 : decode cX11_isChosen 14 = .ok (.ishr, 1) := by decide +kernel
theorem dX11_isChosen_15 : decode cX11_isChosen 15 = .ok (.bipush 127, 2) := by decide +kernel
theorem dX11_isChosen_17 : decode cX11_isChosen 17 = .ok (.iand, 1) := by decide +kernel
theorem dX11_isChosen_18 : decode cX11_isChosen 18 = .ok (.istore 4, 2) := by decide +kernel
theorem dX11_isChosen_20 : decode cX11_isChosen 20 = .ok (.iload_n 2, 1) := by decide +kernel
theorem dX11_isChosen_21 : decode cX11_isChosen 21 = .ok (.bipush 64, 2) := by decide +kernel
theorem dX11_isChosen_23 : decode cX11_isChosen 23 = .ok (.iand, 1) := by decide +kernel
theorem dX11_isChosen_24 : decode cX11_isChosen 24 = .ok (.ifCond .ne 7, 3) := by decide +kernel
theorem dX11_isChosen_27 : decode cX11_isChosen 27 = .ok (.iconst 0, 1) := by decide +kernel
theorem dX11_isChosen_28 : decode cX11_isChosen 28 = .ok (.goto 7, 3) := by decide +kernel
theorem dX11_isChosen_31 : decode cX11_isChosen 31 = .ok (.iload_n 2, 1) := by decide +kernel
theorem dX11_isChosen_32 : decode cX11_isChosen 32 = .ok (.bipush 14, 2) := by decide +kernel
theorem dX11_isChosen_34 : decode cX11_isChosen 34 = .ok (.ishr, 1) := by decide +kernel
theorem dX11_isChosen_35 : decode cX11_isChosen 35 = .ok (.istore 5, 2) := by decide +kernel
theorem dX11_isChosen_37 : decode cX11_isChosen 37 = .ok (.aload_n 0, 1) := by decide +kernel
theorem dX11_isChosen_38 : decode cX11_isChosen 38 = .ok (.getfield 57, 3) := by decide +kernel
theorem dX11_isChosen_41 : decode cX11_isChosen 41 = .ok (.iload_n 3, 1) := by decide +kernel
theorem dX11_isChosen_42 : decode cX11_isChosen 42 = .ok (.iaload, 1) := by decide +kernel
theorem dX11_isChosen_43 : decode cX11_isChosen 43 = .ok (.aload_n 0, 1) := by decide +kernel
theorem dX11_isChosen_44 : decode cX11_isChosen 44 = .ok (.getfield 232, 3) := by decide +kernel
theorem dX11_isChosen_47 : decode cX11_isChosen 47 = .ok (.aload_n 0, 1) := by decide +kernel
theorem dX11_isChosen_48 : decode cX11_isChosen 48 = .ok (.getfield 235, 3) := by decide +kernel
theorem dX11_isChosen_51 : decode cX11_isChosen 51 = .ok (.invokestatic 109, 3) := by decide +kernel
theorem dX11_isChosen_54 : decode cX11_isChosen 54 = .ok (.ifCond .eq 20, 3) := by decide +kernel
theorem dX11_isChosen_57 : decode cX11_isChosen 57 = .ok (.aload_n 0, 1) := by decide +kernel
theorem dX11_isChosen_58 : decode cX11_isChosen 58 = .ok (.iload_n 1, 1) := by decide +kernel
theorem dX11_isChosen_59 : decode cX11_isChosen 59 = .ok (.iload 4, 2) := by decide +kernel
theorem dX11_isChosen_61 : decode cX11_isChosen 61 = .ok (.iload 5, 2) := by decide +kernel
theorem dX11_isChosen_63 : decode cX11_isChosen 63 = .ok (.iload_n 3, 1) := by decide +kernel
theorem dX11_isChosen_64 : decode cX11_isChosen 64 = .ok (.invokevirtual 238, 3) := by decide +kernel
theorem dX11_isChosen_67 : decode cX11_isChosen 67 = .ok (.ifCond .eq 7, 3) := by decide +kernel
theorem dX11_isChosen_70 : decode cX11_isChosen 70 = .ok (.iconst 1, 1) := by decide +kernel
theorem dX11_isChosen_71 : decode cX11_isChosen 71 = .ok (.goto 4, 3) := by decide +kernel
theorem dX11_isChosen_74 : decode cX11_isChosen 74 = .ok (.iconst 0, 1) := by decide +kernel
theorem dX11_isChosen_75 : decode cX11_isChosen 75 = .ok (.ireturn, 1) := by decide +kernel
def f_M_isChosen_b35 (F : Nat) (s : St) (l1 : Int32) (l3 : Int32) (l4 : Int32) (t0 : Int32) : Option (Int32 × St) :=
  (ix 100 l3).bind fun j1 => ((f_M_isIn F s (gA s 55 j1) (gI s 2524) (gI s 2525)).bind fun x2 => (if x2.1 = 0 then
    (some (0, x2.2))
  else
    ((f_M_holds F x2.2 l1 l4 t0 l3).bind fun x3 => (if x3.1 = 0 then
      (some (0, x3.2))
    else
      (some (1, x3.2))))))
def f_M_isChosen (F : Nat) (s : St) (p1 : Int32) (p2 : Int32) (p3 : Int32) : Option (Int32 × St) :=
  if (p2 &&& 64) = 0 then
    (if (p2 &&& 64) = 0 then
      (f_M_isChosen_b35 F s p1 p3 0 0)
    else
      (f_M_isChosen_b35 F s p1 p3 0 (p2 >>> ((14 : Int32) &&& 31))))
  else
    (if (p2 &&& 64) = 0 then
      (f_M_isChosen_b35 F s p1 p3 ((p2 >>> ((7 : Int32) &&& 31)) &&& 127) 0)
    else
      (f_M_isChosen_b35 F s p1 p3 ((p2 >>> ((7 : Int32) &&& 31)) &&& 127) (p2 >>> ((14 : Int32) &&& 31))))
set_option maxHeartbeats 1000000 in
theorem c_f_M_isChosen_b35 {F : Nat} {Γ : Ga} {D : DD} {B : Nat} {r : Int32} {s' : St} (X : Cx Γ RX11 cX11_isChosen 6 D B { frames := 2, cells := 0, slots := 0, locals := 51 }) (hr : (Gme Γ).sig.returnType = (some .boolean)) {s : St} {l1 : Int32} {l3 : Int32} {l4 : Int32} {t0 : Int32} (hf : f_M_isChosen_b35 F s l1 l3 l4 t0 = some (r, s')) : V Γ D B true 6 (QM Γ D B true s' (some (.int r)) 0 0) 0 0 s 35 [(0, .ref (B + 39)), (1, .int l1), (3, .int l3), (4, .int l4)] [.int t0] := by
  unfold f_M_isChosen_b35 at hf
  refine r_istore (pc := 35) (lv' := [(0, .ref (B + 39)), (1, .int l1), (3, .int l3), (4, .int l4), (5, .int t0)]) X dX11_isChosen_35 (by decide) [1, 2, 3, 4, 0] rfl ?_
  refine r_aload_n (x := some 39) (pc := 37) X dX11_isChosen_37 0 rfl ?_
  refine r_get (j := 35) (pc := 38) X ce_39 rfl inT11 (by decide) w_1115 rfl dX11_isChosen_38 ?_
  refine r_iload_n (pc := 41) X dX11_isChosen_41 2 rfl ?_
  refine b_iald (pc := 42) X ce_55 dX11_isChosen_42 hf (fun j1 hf => ?_)
  refine r_aload_n (x := some 39) (pc := 43) X dX11_isChosen_43 0 rfl ?_
  refine r_get (j := 28) (pc := 44) X ce_39 rfl inT11 (by decide) w_1108 rfl dX11_isChosen_44 ?_
  refine r_aload_n (x := some 39) (pc := 47) X dX11_isChosen_47 0 rfl ?_
  refine r_get (j := 29) (pc := 48) X ce_39 rfl inT11 (by decide) w_1109 rfl dX11_isChosen_48 ?_
  refine bnd hf (fun x2 h2 hf => ?_)
  refine r_callSi (As := [.int (gA s 55 j1), .int (gI s 2524), .int (gI s 2525)]) (st := []) (pc := 51) X (c_f_M_isIn h2) rfl w_1257 w_1258 w_84 w_1259 hdS_X11_isIn (by decide) (by decide) (by decide) (Nat.le_of_ble_eq_true rfl) dX11_isChosen_51 rfl ?_
  refine b_if_eq (tgt := 74) (pc := 54) X dX11_isChosen_54 (by decide) hf (fun hf => ?_) (fun hf => ?_)
  · refine r_iconst (v := 0) (pc := 74) X dX11_isChosen_74 (by decide) ?_
    exact e_zret (pc := 75) X hr (by decide) hf (Nat.le_refl _) (Nat.le_refl _) dX11_isChosen_75
  · refine r_aload_n (x := some 39) (pc := 57) X dX11_isChosen_57 0 rfl ?_
    refine r_iload_n (pc := 58) X dX11_isChosen_58 1 rfl ?_
    refine r_iload (pc := 59) X dX11_isChosen_59 3 rfl ?_
    refine r_iload (pc := 61) X dX11_isChosen_61 4 rfl ?_
    refine r_iload_n (pc := 63) X dX11_isChosen_63 2 rfl ?_
    refine bnd hf (fun x3 h3 hf => ?_)
    refine r_callVi (As := [.int l1, .int l4, .int t0, .int l3]) (st := []) (pc := 64) X (c_f_M_holds h3) rfl w_1375 w_1377 w_57 w_84 w_1378 hdV_X11_holds (Rc.s rfl ce_39) (by decide) (by decide) (by decide) (Nat.le_of_ble_eq_true rfl) dX11_isChosen_64 rfl ?_
    refine b_if_eq (tgt := 74) (pc := 67) X dX11_isChosen_67 (by decide) hf (fun hf => ?_) (fun hf => ?_)
    · refine r_iconst (v := 0) (pc := 74) X dX11_isChosen_74 (by decide) ?_
      exact e_zret (pc := 75) X hr (by decide) hf (Nat.le_refl _) (Nat.le_refl _) dX11_isChosen_75
    · refine r_iconst (v := 1) (pc := 70) X dX11_isChosen_70 (by decide) ?_
      refine r_goto (tgt := 75) (pc := 71) X dX11_isChosen_71 (by decide) ?_
      exact e_zret (pc := 75) X hr (by decide) hf (Nat.le_refl _) (Nat.le_refl _) dX11_isChosen_75
set_option maxHeartbeats 1000000 in
theorem c_f_M_isChosen {F : Nat} {s : St} {p1 : Int32} {p2 : Int32} {p3 : Int32} {r : Int32} {s' : St} (hf : f_M_isChosen F s p1 p2 p3 = some (r, s')) : CC true yX11_isChosen (Cond.code yX11_isChosen cX11_isChosen 6 (some .boolean)) 2 51 (fun B => [.ref (B + 39), .int p1, .int p2, .int p3]) s (fun B => (some (.int r))) s' 0 0 := by
  refine CC.of (fun B => [(0, .ref (B + 39)), (1, .int p1), (2, .int p2), (3, .int p3)]) (by decide +kernel) (fun _ => rfl) (fun _ => (by simp [lg_sl, rfB_cat, catI, catL, catR])) (fun Γ D B X hr hin => ?_)
  have X : Cx Γ RX11 cX11_isChosen 6 D B { frames := 2, cells := 0, slots := 0, locals := 51 } := X
  unfold f_M_isChosen at hf
  refine r_iload_n (pc := 0) X dX11_isChosen_0 2 rfl ?_
  refine r_bipush (v := 64) (pc := 1) X dX11_isChosen_1 (by decide) ?_
  refine r_iand (pc := 3) X dX11_isChosen_3 ?_
  refine b_if_ne (tgt := 11) (pc := 4) X dX11_isChosen_4 (by decide) hf (fun hf => ?_) (fun hf => ?_)
  · refine r_iconst (v := 0) (pc := 7) X dX11_isChosen_7 (by decide) ?_
    refine r_goto (tgt := 18) (pc := 8) X dX11_isChosen_8 (by decide) ?_
    refine r_istore (pc := 18) (lv' := [(0, .ref (B + 39)), (1, .int p1), (2, .int p2), (3, .int p3), (4, .int 0)]) X dX11_isChosen_18 (by decide) [1, 2, 3, 4, 0] rfl ?_
    refine r_iload_n (pc := 20) X dX11_isChosen_20 2 rfl ?_
    refine r_bipush (v := 64) (pc := 21) X dX11_isChosen_21 (by decide) ?_
    refine r_iand (pc := 23) X dX11_isChosen_23 ?_
    refine b_if_ne (tgt := 31) (pc := 24) X dX11_isChosen_24 (by decide) hf (fun hf => ?_) (fun hf => ?_)
    · refine r_iconst (v := 0) (pc := 27) X dX11_isChosen_27 (by decide) ?_
      refine r_goto (tgt := 35) (pc := 28) X dX11_isChosen_28 (by decide) ?_
      refine r_forget (lv' := [(0, .ref (B + 39)), (1, .int p1), (3, .int p3), (4, .int 0)]) [0, 1, 3, 4] rfl ?_
      exact c_f_M_isChosen_b35 X hr hf
    · refine r_iload_n (pc := 31) X dX11_isChosen_31 2 rfl ?_
      refine r_bipush (v := 14) (pc := 32) X dX11_isChosen_32 (by decide) ?_
      refine r_ishr (pc := 34) X dX11_isChosen_34 ?_
      refine r_forget (lv' := [(0, .ref (B + 39)), (1, .int p1), (3, .int p3), (4, .int 0)]) [0, 1, 3, 4] rfl ?_
      exact c_f_M_isChosen_b35 X hr hf
  · refine r_iload_n (pc := 11) X dX11_isChosen_11 2 rfl ?_
    refine r_bipush (v := 7) (pc := 12) X dX11_isChosen_12 (by decide) ?_
    refine r_ishr (pc := 14) X dX11_isChosen_14 ?_
    refine r_bipush (v := 127) (pc := 15) X dX11_isChosen_15 (by decide) ?_
    refine r_iand (pc := 17) X dX11_isChosen_17 ?_
    refine r_istore (pc := 18) (lv' := [(0, .ref (B + 39)), (1, .int p1), (2, .int p2), (3, .int p3), (4, .int ((p2 >>> ((7 : Int32) &&& 31)) &&& 127))]) X dX11_isChosen_18 (by decide) [1, 2, 3, 4, 0] rfl ?_
    refine r_iload_n (pc := 20) X dX11_isChosen_20 2 rfl ?_
    refine r_bipush (v := 64) (pc := 21) X dX11_isChosen_21 (by decide) ?_
    refine r_iand (pc := 23) X dX11_isChosen_23 ?_
    refine b_if_ne (tgt := 31) (pc := 24) X dX11_isChosen_24 (by decide) hf (fun hf => ?_) (fun hf => ?_)
    · refine r_iconst (v := 0) (pc := 27) X dX11_isChosen_27 (by decide) ?_
      refine r_goto (tgt := 35) (pc := 28) X dX11_isChosen_28 (by decide) ?_
      refine r_forget (lv' := [(0, .ref (B + 39)), (1, .int p1), (3, .int p3), (4, .int ((p2 >>> ((7 : Int32) &&& 31)) &&& 127))]) [0, 1, 3, 4] rfl ?_
      exact c_f_M_isChosen_b35 X hr hf
    · refine r_iload_n (pc := 31) X dX11_isChosen_31 2 rfl ?_
      refine r_bipush (v := 14) (pc := 32) X dX11_isChosen_32 (by decide) ?_
      refine r_ishr (pc := 34) X dX11_isChosen_34 ?_
      refine r_forget (lv' := [(0, .ref (B + 39)), (1, .int p1), (3, .int p3), (4, .int ((p2 >>> ((7 : Int32) &&& 31)) &&& 127))]) [0, 1, 3, 4] rfl ?_
      exact c_f_M_isChosen_b35 X hr hf
/-! f_M_times -/
theorem dX11_times_0 : decode cX11_times 0 = .ok (.iconst 0, 1) := by decide +kernel
theorem dX11_times_1 : decode cX11_times 1 = .ok (.istore 5, 2) := by decide +kernel
theorem dX11_times_3 : decode cX11_times 3 = .ok (.iconst 0, 1) := by decide +kernel
theorem dX11_times_4 : decode cX11_times 4 = .ok (.istore 6, 2) := by decide +kernel
theorem dX11_times_6 : decode cX11_times 6 = .ok (.iload 6, 2) := by decide +kernel
theorem dX11_times_8 : decode cX11_times 8 = .ok (.iload 4, 2) := by decide +kernel
theorem dX11_times_10 : decode cX11_times 10 = .ok (.if_icmp .ge 46, 3) := by decide +kernel
theorem dX11_times_13 : decode cX11_times 13 = .ok (.iload 5, 2) := by decide +kernel
theorem dX11_times_15 : decode cX11_times 15 = .ok (.aload_n 0, 1) := by decide +kernel
theorem dX11_times_16 : decode cX11_times 16 = .ok (.iload_n 1, 1) := by decide +kernel
theorem dX11_times_17 : decode cX11_times 17 = .ok (.iload_n 2, 1) := by decide +kernel
theorem dX11_times_18 : decode cX11_times 18 = .ok (.iload 6, 2) := by decide +kernel
theorem dX11_times_20 : decode cX11_times 20 = .ok (.invokevirtual 242, 3) := by decide +kernel
theorem dX11_times_23 : decode cX11_times 23 = .ok (.ifCond .eq 23, 3) := by decide +kernel
theorem dX11_times_26 : decode cX11_times 26 = .ok (.aload_n 0, 1) := by decide +kernel
theorem dX11_times_27 : decode cX11_times 27 = .ok (.iload 6, 2) := by decide +kernel
theorem dX11_times_29 : decode cX11_times 29 = .ok (.iload_n 2, 1) := by decide +kernel
theorem dX11_times_30 : decode cX11_times 30 = .ok (.iconst 3, 1) := by decide +kernel
theorem dX11_times_31 : decode cX11_times 31 = .ok (.ishr, 1) := by decide +kernel
theorem dX11_times_32 : decode cX11_times 32 = .ok (.bipush 7, 2) := by decide +kernel
theorem dX11_times_34 : decode cX11_times 34 = .ok (.iand, 1) := by decide +kernel
theorem dX11_times_35 : decode cX11_times 35 = .ok (.invokevirtual 224, 3) := by decide +kernel
theorem dX11_times_38 : decode cX11_times 38 = .ok (.iload_n 3, 1) := by decide +kernel
theorem dX11_times_39 : decode cX11_times 39 = .ok (.if_icmp .ne 7, 3) := by decide +kernel
theorem dX11_times_42 : decode cX11_times 42 = .ok (.iconst 1, 1) := by decide +kernel
theorem dX11_times_43 : decode cX11_times 43 = .ok (.goto 4, 3) := by decide +kernel
theorem dX11_times_46 : decode cX11_times 46 = .ok (.iconst 0, 1) := by decide +kernel
theorem dX11_times_47 : decode cX11_times 47 = .ok (.iadd, 1) := by decide +kernel
theorem dX11_times_48 : decode cX11_times 48 = .ok (.istore 5, 2) := by decide +kernel
theorem dX11_times_50 : decode cX11_times 50 = .ok (.iinc 6 1, 3) := by decide +kernel
theorem dX11_times_53 : decode cX11_times 53 = .ok (.goto (-47), 3) := by decide +kernel
theorem dX11_times_56 : decode cX11_times 56 = .ok (.iload 5, 2) := by decide +kernel
theorem dX11_times_58 : decode cX11_times 58 = .ok (.ireturn, 1) := by decide +kernel
def f_M_times_b6 (F : Nat) : Nat → St → Int32 → Int32 → Int32 → Int32 → Int32 → Int32 → Option (Int32 × St)
  | 0, _, _, _, _, _, _, _ => none
  | n + 1, s, l1, l2, l3, l4, l5, l6 =>
    if l4 ≤ l6 then
      (some (l5, s))
    else
      ((f_M_isChosen F s l1 l2 l6).bind fun x1 => (if x1.1 = 0 then
        (f_M_times_b6 F n x1.2 l1 l2 l3 l4 (l5 + 0) (l6 + 1))
      else
        ((f_M_fieldIn F x1.2 l6 ((l2 >>> ((3 : Int32) &&& 31)) &&& 7)).bind fun x2 => (if x2.1 = l3 then
          (f_M_times_b6 F n x2.2 l1 l2 l3 l4 (l5 + 1) (l6 + 1))
        else
          (f_M_times_b6 F n x2.2 l1 l2 l3 l4 (l5 + 0) (l6 + 1))))))
def f_M_times (F : Nat) (s : St) (p1 : Int32) (p2 : Int32) (p3 : Int32) (p4 : Int32) : Option (Int32 × St) :=
  f_M_times_b6 F F s p1 p2 p3 p4 0 0
set_option maxHeartbeats 1000000 in
theorem c_f_M_times_b6 {F : Nat} {Γ : Ga} {D : DD} {B : Nat} {r : Int32} {s' : St} (X : Cx Γ RX11 cX11_times 7 D B { frames := 3, cells := 0, slots := 0, locals := 76 }) (hr : (Gme Γ).sig.returnType = (some .int)) : ∀ (n : Nat) {s : St} {l1 : Int32} {l2 : Int32} {l3 : Int32} {l4 : Int32} {l5 : Int32} {l6 : Int32}, f_M_times_b6 F n s l1 l2 l3 l4 l5 l6 = some (r, s') → V Γ D B true 7 (QM Γ D B true s' (some (.int r)) 0 0) 0 0 s 6 [(0, .ref (B + 39)), (1, .int l1), (2, .int l2), (3, .int l3), (4, .int l4), (5, .int l5), (6, .int l6)] [] := by
  intro n
  induction n with
  | zero => intro s l1 l2 l3 l4 l5 l6 hf; rw [f_M_times_b6] at hf; cases hf
  | succ n ih =>
    intro s l1 l2 l3 l4 l5 l6 hf
    rw [f_M_times_b6] at hf
    refine r_iload (pc := 6) X dX11_times_6 6 rfl ?_
    refine r_iload (pc := 8) X dX11_times_8 4 rfl ?_
    refine b_icmp_ge (tgt := 56) (pc := 10) X dX11_times_10 (by decide) hf (fun hf => ?_) (fun hf => ?_)
    · refine r_iload (pc := 56) X dX11_times_56 5 rfl ?_
      exact e_iret (pc := 58) X hr hf (Nat.le_refl _) (Nat.le_refl _) dX11_times_58
    · refine r_iload (pc := 13) X dX11_times_13 5 rfl ?_
      refine r_aload_n (x := some 39) (pc := 15) X dX11_times_15 0 rfl ?_
      refine r_iload_n (pc := 16) X dX11_times_16 1 rfl ?_
      refine r_iload_n (pc := 17) X dX11_times_17 2 rfl ?_
      refine r_iload (pc := 18) X dX11_times_18 6 rfl ?_
      refine bnd hf (fun x1 h1 hf => ?_)
      refine r_callVi (As := [.int l1, .int l2, .int l6]) (st := [.int l5]) (pc := 20) X (c_f_M_isChosen h1) rfl w_1371 w_1373 w_56 w_84 w_1374 hdV_X11_isChosen (Rc.s rfl ce_39) (by decide) (by decide) (by decide) (Nat.le_of_ble_eq_true rfl) dX11_times_20 rfl ?_
      refine b_if_eq (tgt := 46) (pc := 23) X dX11_times_23 (by decide) hf (fun hf => ?_) (fun hf => ?_)
      · refine r_iconst (v := 0) (pc := 46) X dX11_times_46 (by decide) ?_
        refine r_iadd (pc := 47) X dX11_times_47 ?_
        refine r_istore (pc := 48) (lv' := [(0, .ref (B + 39)), (1, .int l1), (2, .int l2), (3, .int l3), (4, .int l4), (5, .int (l5 + 0)), (6, .int l6)]) X dX11_times_48 (by decide) [1, 2, 3, 4, 5, 0, 6] rfl ?_
        refine r_iinc (v := l6 + 1) (lv' := [(0, .ref (B + 39)), (1, .int l1), (2, .int l2), (3, .int l3), (4, .int l4), (5, .int (l5 + 0)), (6, .int (l6 + 1))]) (pc := 50) X dX11_times_50 6 rfl rfl (by decide) [1, 2, 3, 4, 5, 6, 0] rfl ?_
        refine r_goto (tgt := 6) (pc := 53) X dX11_times_53 (by decide) ?_
        exact ih hf
      · refine r_aload_n (x := some 39) (pc := 26) X dX11_times_26 0 rfl ?_
        refine r_iload (pc := 27) X dX11_times_27 6 rfl ?_
        refine r_iload_n (pc := 29) X dX11_times_29 2 rfl ?_
        refine r_iconst (v := 3) (pc := 30) X dX11_times_30 (by decide) ?_
        refine r_ishr (pc := 31) X dX11_times_31 ?_
        refine r_bipush (v := 7) (pc := 32) X dX11_times_32 (by decide) ?_
        refine r_iand (pc := 34) X dX11_times_34 ?_
        refine bnd hf (fun x2 h2 hf => ?_)
        refine r_callVi (As := [.int l6, .int ((l2 >>> ((3 : Int32) &&& 31)) &&& 7)]) (st := [.int l5]) (pc := 35) X (c_f_M_fieldIn h2) rfl w_1379 w_1381 w_58 w_84 w_1382 hdV_X11_fieldIn (Rc.s rfl ce_39) (by decide) (by decide) (by decide) (Nat.le_of_ble_eq_true rfl) dX11_times_35 rfl ?_
        refine r_iload_n (pc := 38) X dX11_times_38 3 rfl ?_
        refine b_icmp_ne (tgt := 46) (pc := 39) X dX11_times_39 (by decide) hf (fun hf => ?_) (fun hf => ?_)
        · refine r_iconst (v := 1) (pc := 42) X dX11_times_42 (by decide) ?_
          refine r_goto (tgt := 47) (pc := 43) X dX11_times_43 (by decide) ?_
          refine r_iadd (pc := 47) X dX11_times_47 ?_
          refine r_istore (pc := 48) (lv' := [(0, .ref (B + 39)), (1, .int l1), (2, .int l2), (3, .int l3), (4, .int l4), (5, .int (l5 + 1)), (6, .int l6)]) X dX11_times_48 (by decide) [1, 2, 3, 4, 5, 0, 6] rfl ?_
          refine r_iinc (v := l6 + 1) (lv' := [(0, .ref (B + 39)), (1, .int l1), (2, .int l2), (3, .int l3), (4, .int l4), (5, .int (l5 + 1)), (6, .int (l6 + 1))]) (pc := 50) X dX11_times_50 6 rfl rfl (by decide) [1, 2, 3, 4, 5, 6, 0] rfl ?_
          refine r_goto (tgt := 6) (pc := 53) X dX11_times_53 (by decide) ?_
          exact ih hf
        · refine r_iconst (v := 0) (pc := 46) X dX11_times_46 (by decide) ?_
          refine r_iadd (pc := 47) X dX11_times_47 ?_
          refine r_istore (pc := 48) (lv' := [(0, .ref (B + 39)), (1, .int l1), (2, .int l2), (3, .int l3), (4, .int l4), (5, .int (l5 + 0)), (6, .int l6)]) X dX11_times_48 (by decide) [1, 2, 3, 4, 5, 0, 6] rfl ?_
          refine r_iinc (v := l6 + 1) (lv' := [(0, .ref (B + 39)), (1, .int l1), (2, .int l2), (3, .int l3), (4, .int l4), (5, .int (l5 + 0)), (6, .int (l6 + 1))]) (pc := 50) X dX11_times_50 6 rfl rfl (by decide) [1, 2, 3, 4, 5, 6, 0] rfl ?_
          refine r_goto (tgt := 6) (pc := 53) X dX11_times_53 (by decide) ?_
          exact ih hf
set_option maxHeartbeats 1000000 in
theorem c_f_M_times {F : Nat} {s : St} {p1 : Int32} {p2 : Int32} {p3 : Int32} {p4 : Int32} {r : Int32} {s' : St} (hf : f_M_times F s p1 p2 p3 p4 = some (r, s')) : CC true yX11_times (Cond.code yX11_times cX11_times 7 (some .int)) 3 76 (fun B => [.ref (B + 39), .int p1, .int p2, .int p3, .int p4]) s (fun B => (some (.int r))) s' 0 0 := by
  refine CC.of (fun B => [(0, .ref (B + 39)), (1, .int p1), (2, .int p2), (3, .int p3), (4, .int p4)]) (by decide +kernel) (fun _ => rfl) (fun _ => (by simp [lg_sl, rfB_cat, catI, catL, catR])) (fun Γ D B X hr hin => ?_)
  have X : Cx Γ RX11 cX11_times 7 D B { frames := 3, cells := 0, slots := 0, locals := 76 } := X
  unfold f_M_times at hf
  refine r_iconst (v := 0) (pc := 0) X dX11_times_0 (by decide) ?_
  refine r_istore (pc := 1) (lv' := [(0, .ref (B + 39)), (1, .int p1), (2, .int p2), (3, .int p3), (4, .int p4), (5, .int 0)]) X dX11_times_1 (by decide) [1, 2, 3, 4, 5, 0] rfl ?_
  refine r_iconst (v := 0) (pc := 3) X dX11_times_3 (by decide) ?_
  refine r_istore (pc := 4) (lv' := [(0, .ref (B + 39)), (1, .int p1), (2, .int p2), (3, .int p3), (4, .int p4), (5, .int 0), (6, .int 0)]) X dX11_times_4 (by decide) [1, 2, 3, 4, 5, 6, 0] rfl ?_
  exact c_f_M_times_b6 X hr _ hf
/-! f_M_aggregate -/
theorem dX11_aggregate_0 : decode cX11_aggregate 0 = .ok (.iload_n 2, 1) := by decide +kernel
theorem dX11_aggregate_1 : decode cX11_aggregate 1 = .ok (.bipush 7, 2) := by decide +kernel
theorem dX11_aggregate_3 : decode cX11_aggregate 3 = .ok (.iand, 1) := by decide +kernel
theorem dX11_aggregate_4 : decode cX11_aggregate 4 = .ok (.istore_n 3, 1) := by decide +kernel
theorem dX11_aggregate_5 : decode cX11_aggregate 5 = .ok (.iload_n 2, 1) := by decide +kernel
theorem dX11_aggregate_6 : decode cX11_aggregate 6 = .ok (.iconst 3, 1) := by decide +kernel
theorem dX11_aggregate_7 : decode cX11_aggregate 7 = .ok (.ishr, 1) := by decide +kernel
theorem dX11_aggregate_8 : decode cX11_aggregate 8 = .ok (.bipush 7, 2) := by decide +kernel
theorem dX11_aggregate_10 : decode cX11_aggregate 10 = .ok (.iand, 1) := by decide +kernel
theorem dX11_aggregate_11 : decode cX11_aggregate 11 = .ok (.istore 4, 2) := by decide +kernel
theorem dX11_aggregate_13 : decode cX11_aggregate 13 = .ok (.lconst 0, 1) := by decide +kernel
theorem dX11_aggregate_14 : decode cX11_aggregate 14 = .ok (.lstore 5, 2) := by decide +kernel
theorem dX11_aggregate_16 : decode cX11_aggregate 16 = .ok (.iconst 0, 1) := by decide +kernel
theorem dX11_aggregate_17 : decode cX11_aggregate 17 = .ok (.istore 7, 2) := by decide +kernel
theorem dX11_aggregate_19 : decode cX11_aggregate 19 = .ok (.iconst 0, 1) := by decide +kernel
theorem dX11_aggregate_20 : decode cX11_aggregate 20 = .ok (.istore 8, 2) := by decide +kernel
theorem dX11_aggregate_22 : decode cX11_aggregate 22 = .ok (.iconst 0, 1) := by decide +kernel
theorem dX11_aggregate_23 : decode cX11_aggregate 23 = .ok (.istore 9, 2) := by decide +kernel
theorem dX11_aggregate_25 : decode cX11_aggregate 25 = .ok (.iload 9, 2) := by decide +kernel
theorem dX11_aggregate_27 : decode cX11_aggregate 27 = .ok (.aload_n 0, 1) := by decide +kernel
theorem dX11_aggregate_28 : decode cX11_aggregate 28 = .ok (.getfield 245, 3) := by decide +kernel
theorem dX11_aggregate_31 : decode cX11_aggregate 31 = .ok (.if_icmp .ge 215, 3) := by decide +kernel
theorem dX11_aggregate_34 : decode cX11_aggregate 34 = .ok (.aload_n 0, 1) := by decide +kernel
theorem dX11_aggregate_35 : decode cX11_aggregate 35 = .ok (.iload_n 1, 1) := by decide +kernel
theorem dX11_aggregate_36 : decode cX11_aggregate 36 = .ok (.iload_n 2, 1) := by decide +kernel
theorem dX11_aggregate_37 : decode cX11_aggregate 37 = .ok (.iload 9, 2) := by decide +kernel
theorem dX11_aggregate_39 : decode cX11_aggregate 39 = .ok (.invokevirtual 242, 3) := by decide +kernel
theorem dX11_aggregate_42 : decode cX11_aggregate 42 = .ok (.ifCond .eq 198, 3) := by decide +kernel
theorem dX11_aggregate_45 : decode cX11_aggregate 45 = .ok (.aload_n 0, 1) := by decide +kernel
theorem dX11_aggregate_46 : decode cX11_aggregate 46 = .ok (.iload 9, 2) := by decide +kernel
theorem dX11_aggregate_48 : decode cX11_aggregate 48 = .ok (.iload 4, 2) := by decide +kernel
theorem dX11_aggregate_50 : decode cX11_aggregate 50 = .ok (.invokevirtual 224, 3) := by decide +kernel
theorem dX11_aggregate_53 : decode cX11_aggregate 53 = .ok (.istore 10, 2) := by decide +kernel
theorem dX11_aggregate_55 : decode cX11_aggregate 55 = .ok (.iload_n 3, 1) := by decide +kernel
theorem dX11_aggregate_56 : decode cX11_aggregate 56 = .ok (.iconst 3, 1) := by decide +kernel
theorem dX11_aggregate_57 : decode cX11_aggregate 57 = .ok (.if_icmp .le 20, 3) := by decide +kernel
theorem dX11_aggregate_60 : decode cX11_aggregate 60 = .ok (.aload_n 0, 1) := by decide +kernel
theorem dX11_aggregate_61 : decode cX11_aggregate 61 = .ok (.iload_n 1, 1) := by decide +kernel
theorem dX11_aggregate_62 : decode cX11_aggregate 62 = .ok (.iload_n 2, 1) := by decide +kernel
theorem dX11_aggregate_63 : decode cX11_aggregate 63 = .ok (.iload 10, 2) := by decide +kernel
theorem dX11_aggregate_65 : decode cX11_aggregate 65 = .ok (.iload 9, 2) := by decide +kernel
theorem dX11_aggregate_67 : decode cX11_aggregate 67 = .ok (.invokevirtual 248, 3) := by decide +kernel
theorem dX11_aggregate_70 : decode cX11_aggregate 70 = .ok (.ifCond .ne 7, 3) := by decide +kernel
theorem dX11_aggregate_73 : decode cX11_aggregate 73 = .ok (.iconst 1, 1) := by decide +kernel
theorem dX11_aggregate_74 : decode cX11_aggregate 74 = .ok (.goto 4, 3) := by decide +kernel
theorem dX11_aggregate_77 : decode cX11_aggregate 77 = .ok (.iconst 0, 1) := by decide +kernel
theorem dX11_aggregate_78 : decode cX11_aggregate 78 = .ok (.istore 11, 2) := by decide +kernel
theorem dX11_aggregate_80 : decode cX11_aggregate 80 = .ok (.iload 11, 2) := by decide +kernel
theorem dX11_aggregate_82 : decode cX11_aggregate 82 = .ok (.ifCond .eq 23, 3) := by decide +kernel
theorem dX11_aggregate_85 : decode cX11_aggregate 85 = .ok (.iload_n 3, 1) := by decide +kernel
theorem dX11_aggregate_86 : decode cX11_aggregate 86 = .ok (.iconst 5, 1) := by decide +kernel
theorem dX11_aggregate_87 : decode cX11_aggregate 87 = .ok (.if_icmp .ne 18, 3) := by decide +kernel
theorem dX11_aggregate_90 : decode cX11_aggregate 90 = .ok (.aload_n 0, 1) := by decide +kernel
theorem dX11_aggregate_91 : decode cX11_aggregate 91 = .ok (.iload_n 1, 1) := by decide +kernel
theorem dX11_aggregate_92 : decode cX11_aggregate 92 = .ok (.iload_n 2, 1) := by decide +kernel
theorem dX11_aggregate_93 : decode cX11_aggregate 93 = .ok (.iload 10, 2) := by decide +kernel
theorem dX11_aggregate_95 : decode cX11_aggregate 95 = .ok (.aload_n 0, 1) := by decide +kernel
theorem dX11_aggregate_96 : decode cX11_aggregate 96 = .ok (.getfield 245, 3) := by decide +kernel
theorem dX11_aggregate_99 : decode cX11_aggregate 99 = .ok (.invokevirtual 248, 3) := by decide +kernel
theorem dX11_aggregate_102 : decode cX11_aggregate 102 = .ok (.goto 4, 3) := by decide +kernel
theorem dX11_aggregate_105 : decode cX11_aggregate 105 = .ok (.iconst 0, 1) := by decide +kernel
theorem dX11_aggregate_106 : decode cX11_aggregate 106 = .ok (.istore 12, 2) := by decide +kernel
theorem dX11_aggregate_108 : decode cX11_aggregate 108 = .ok (.iload_n 3, 1) := by decide +kernel
theorem dX11_aggregate_109 : decode cX11_aggregate 109 = .ok (.iconst 2, 1) := by decide +kernel
theorem dX11_aggregate_110 : decode cX11_aggregate 110 = .ok (.if_icmp .ge 22, 3) := by decide +kernel
theorem dX11_aggregate_113 : decode cX11_aggregate 113 = .ok (.lload 5, 2) := by decide +kernel
theorem dX11_aggregate_115 : decode cX11_aggregate 115 = .ok (.iload_n 3, 1) := by decide +kernel
theorem dX11_aggregate_116 : decode cX11_aggregate 116 = .ok (.ifCond .ne 7, 3) := by decide +kernel
theorem dX11_aggregate_119 : decode cX11_aggregate 119 = .ok (.lconst 1, 1) := by decide +kernel
theorem dX11_aggregate_120 : decode cX11_aggregate 120 = .ok (.goto 6, 3) := by decide +kernel
theorem dX11_aggregate_123 : decode cX11_aggregate 123 = .ok (.iload 10, 2) := by decide +kernel
theorem dX11_aggregate_125 : decode cX11_aggregate 125 = .ok (.i2l, 1) := by decide +kernel
theorem dX11_aggregate_126 : decode cX11_aggregate 126 = .ok (.ladd, 1) := by decide +kernel
theorem dX11_aggregate_127 : decode cX11_aggregate 127 = .ok (.lstore 5, 2) := by decide +kernel
theorem dX11_aggregate_129 : decode cX11_aggregate 129 = .ok (.goto 108, 3) := by decide +kernel
theorem dX11_aggregate_132 : decode cX11_aggregate 132 = .ok (.iload_n 3, 1) := by decide +kernel
theorem dX11_aggregate_133 : decode cX11_aggregate 133 = .ok (.iconst 4, 1) := by decide +kernel
theorem dX11_aggregate_134 : decode cX11_aggregate 134 = .ok (.if_icmp .ge 47, 3) := by decide +kernel
theorem dX11_aggregate_137 : decode cX11_aggregate 137 = .ok (.iload 7, 2) := by decide +kernel
theorem dX11_aggregate_139 : decode cX11_aggregate 139 = .ok (.ifCond .eq 29, 3) := by decide +kernel
theorem dX11_aggregate_142 : decode cX11_aggregate 142 = .ok (.iload_n 3, 1) := by decide +kernel
theorem dX11_aggregate_143 : decode cX11_aggregate 143 = .ok (.iconst 2, 1) := by decide +kernel
theorem dX11_aggregate_144 : decode cX11_aggregate 144 = .ok (.if_icmp .ne 15, 3) := by decide +kernel
theorem dX11_aggregate_147 : decode cX11_aggregate 147 = .ok (.iload 10, 2) := by decide +kernel
theorem dX11_aggregate_149 : decode cX11_aggregate 149 = .ok (.i2l, 1) := by decide +kernel
theorem dX11_aggregate_150 : decode cX11_aggregate 150 = .ok (.lload 5, 2) := by decide +kernel
theorem dX11_aggregate_152 : decode cX11_aggregate 152 = .ok (.lcmp, 1) := by decide +kernel
theorem dX11_aggregate_153 : decode cX11_aggregate 153 = .ok (.ifCond .ge 21, 3) := by decide +kernel
theorem dX11_aggregate_156 : decode cX11_aggregate 156 = .ok (.goto 12, 3) := by decide +kernel
theorem dX11_aggregate_159 : decode cX11_aggregate 159 = .ok (.iload 10, 2) := by decide +kernel
theorem dX11_aggregate_161 : decode cX11_aggregate 161 = .ok (.i2l, 1) := by decide +kernel
theorem dX11_aggregate_162 : decode cX11_aggregate 162 = .ok (.lload 5, 2) := by decide +kernel
theorem dX11_aggregate_164 : decode cX11_aggregate 164 = .ok (.lcmp, 1) := by decide +kernel
theorem dX11_aggregate_165 : decode cX11_aggregate 165 = .ok (.ifCond .le 9, 3) := by decide +kernel
theorem dX11_aggregate_168 : decode cX11_aggregate 168 = .ok (.iload 10, 2) := by decide +kernel
theorem dX11_aggregate_170 : decode cX11_aggregate 170 = .ok (.i2l, 1) := by decide +kernel
theorem dX11_aggregate_171 : decode cX11_aggregate 171 = .ok (.goto 5, 3) := by decide +kernel
theorem dX11_aggregate_174 : decode cX11_aggregate 174 = .ok (.lload 5, 2) := by decide +kernel
theorem dX11_aggregate_176 : decode cX11_aggregate 176 = .ok (.lstore 5, 2) := by decide +kernel
theorem dX11_aggregate_178 : decode cX11_aggregate 178 = .ok (.goto 59, 3) := by decide +kernel
theorem dX11_aggregate_181 : decode cX11_aggregate 181 = .ok (.iload_n 3, 1) := by decide +kernel
theorem dX11_aggregate_182 : decode cX11_aggregate 182 = .ok (.iconst 4, 1) := by decide +kernel
theorem dX11_aggregate_183 : decode cX11_aggregate 183 = .ok (.if_icmp .ne 21, 3) := by decide +kernel
theorem dX11_aggregate_186 : decode cX11_aggregate 186 = .ok (.lload 5, 2) := by decide +kernel
theorem dX11_aggregate_188 : decode cX11_aggregate 188 = .ok (.iload 11, 2) := by decide +kernel
theorem dX11_aggregate_190 : decode cX11_aggregate 190 = .ok (.ifCond .eq 7, 3) := by decide +kernel
theorem dX11_aggregate_193 : decode cX11_aggregate 193 = .ok (.lconst 1, 1) := by decide +kernel
theorem dX11_aggregate_194 : decode cX11_aggregate 194 = .ok (.goto 4, 3) := by decide +kernel
theorem dX11_aggregate_197 : decode cX11_aggregate 197 = .ok (.lconst 0, 1) := by decide +kernel
theorem dX11_aggregate_198 : decode cX11_aggregate 198 = .ok (.ladd, 1) := by decide +kernel
theorem dX11_aggregate_199 : decode cX11_aggregate 199 = .ok (.lstore 5, 2) := by decide +kernel
theorem dX11_aggregate_201 : decode cX11_aggregate 201 = .ok (.goto 36, 3) := by decide +kernel
theorem dX11_aggregate_204 : decode cX11_aggregate 204 = .ok (.iload 12, 2) := by decide +kernel
theorem dX11_aggregate_206 : decode cX11_aggregate 206 = .ok (.iload 8, 2) := by decide +kernel
theorem dX11_aggregate_208 : decode cX11_aggregate 208 = .ok (.if_icmp .le 9, 3) := by decide +kernel
theorem dX11_aggregate_211 : decode cX11_aggregate 211 = .ok (.iload 10, 2) := by decide +kernel
theorem dX11_aggregate_213 : decode cX11_aggregate 213 = .ok (.i2l, 1) := by decide +kernel
theorem dX11_aggregate_214 : decode cX11_aggregate 214 = .ok (.goto 5, 3) := by decide +kernel
theorem dX11_aggregate_217 : decode cX11_aggregate 217 = .ok (.lload 5, 2) := by decide +kernel
theorem dX11_aggregate_219 : decode cX11_aggregate 219 = .ok (.lstore 5, 2) := by decide +kernel
theorem dX11_aggregate_221 : decode cX11_aggregate 221 = .ok (.iload 12, 2) := by decide +kernel
theorem dX11_aggregate_223 : decode cX11_aggregate 223 = .ok (.iload 8, 2) := by decide +kernel
theorem dX11_aggregate_225 : decode cX11_aggregate 225 = .ok (.if_icmp .le 8, 3) := by decide +kernel
theorem dX11_aggregate_228 : decode cX11_aggregate 228 = .ok (.iload 12, 2) := by decide +kernel
theorem dX11_aggregate_230 : decode cX11_aggregate 230 = .ok (.goto 5, 3) := by decide +kernel
theorem dX11_aggregate_233 : decode cX11_aggregate 233 = .ok (.iload 8, 2) := by decide +kernel
theorem dX11_aggregate_235 : decode cX11_aggregate 235 = .ok (.istore 8, 2) := by decide +kernel
theorem dX11_aggregate_237 : decode cX11_aggregate 237 = .ok (.iinc 7 1, 3) := by decide +kernel
theorem dX11_aggregate_240 : decode cX11_aggregate 240 = .ok (.iinc 9 1, 3) := by decide +kernel
theorem dX11_aggregate_243 : decode cX11_aggregate 243 = .ok (.goto (-218), 3) := by decide +kernel
theorem dX11_aggregate_246 : decode cX11_aggregate 246 = .ok (.lload 5, 2) := by decide +kernel
theorem dX11_aggregate_248 : decode cX11_aggregate 248 = .ok (.lreturn, 1) := by decide +kernel
def f_M_aggregate_b219 (F : Nat) (K25 : St → Int32 → Int32 → Int32 → Int32 → Int64 → Int32 → Int32 → Int32 → Option (Int64 × St)) (s : St) (l1 : Int32) (l2 : Int32) (l3 : Int32) (l4 : Int32) (l7 : Int32) (l8 : Int32) (l9 : Int32) (l12 : Int32) (t0 : Int64) : Option (Int64 × St) :=
  if l12 ≤ l8 then
    (K25 s l1 l2 l3 l4 t0 (l7 + 1) l8 (l9 + 1))
  else
    (K25 s l1 l2 l3 l4 t0 (l7 + 1) l12 (l9 + 1))
def f_M_aggregate_b106 (F : Nat) (K25 : St → Int32 → Int32 → Int32 → Int32 → Int64 → Int32 → Int32 → Int32 → Option (Int64 × St)) (s : St) (l1 : Int32) (l2 : Int32) (l3 : Int32) (l4 : Int32) (l5 : Int64) (l7 : Int32) (l8 : Int32) (l9 : Int32) (l10 : Int32) (l11 : Int32) (t0 : Int32) : Option (Int64 × St) :=
  if 2 ≤ l3 then
    (if 4 ≤ l3 then
      (if l3 = 4 then
        (if l11 = 0 then
          (K25 s l1 l2 l3 l4 (l5 + 0) (l7 + 1) l8 (l9 + 1))
        else
          (K25 s l1 l2 l3 l4 (l5 + 1) (l7 + 1) l8 (l9 + 1)))
      else
        (if t0 ≤ l8 then
          (f_M_aggregate_b219 F K25 s l1 l2 l3 l4 l7 l8 l9 t0 l5)
        else
          (f_M_aggregate_b219 F K25 s l1 l2 l3 l4 l7 l8 l9 t0 l10.toInt64)))
    else
      (if l7 = 0 then
        (K25 s l1 l2 l3 l4 l10.toInt64 (l7 + 1) l8 (l9 + 1))
      else
        (if l3 = 2 then
          (if l5 ≤ l10.toInt64 then
            (K25 s l1 l2 l3 l4 l5 (l7 + 1) l8 (l9 + 1))
          else
            (K25 s l1 l2 l3 l4 l10.toInt64 (l7 + 1) l8 (l9 + 1)))
        else
          (if l10.toInt64 ≤ l5 then
            (K25 s l1 l2 l3 l4 l5 (l7 + 1) l8 (l9 + 1))
          else
            (K25 s l1 l2 l3 l4 l10.toInt64 (l7 + 1) l8 (l9 + 1))))))
  else
    (if l3 = 0 then
      (K25 s l1 l2 l3 l4 (l5 + 1) (l7 + 1) l8 (l9 + 1))
    else
      (K25 s l1 l2 l3 l4 (l5 + l10.toInt64) (l7 + 1) l8 (l9 + 1)))
def f_M_aggregate_b78 (F : Nat) (K25 : St → Int32 → Int32 → Int32 → Int32 → Int64 → Int32 → Int32 → Int32 → Option (Int64 × St)) (s : St) (l1 : Int32) (l2 : Int32) (l3 : Int32) (l4 : Int32) (l5 : Int64) (l7 : Int32) (l8 : Int32) (l9 : Int32) (l10 : Int32) (t0 : Int32) : Option (Int64 × St) :=
  if t0 = 0 then
    (f_M_aggregate_b106 F K25 s l1 l2 l3 l4 l5 l7 l8 l9 l10 t0 0)
  else
    (if l3 = 5 then
      ((f_M_times F s l1 l2 l10 (gI s 2527)).bind fun x3 => (f_M_aggregate_b106 F K25 x3.2 l1 l2 l3 l4 l5 l7 l8 l9 l10 t0 x3.1))
    else
      (f_M_aggregate_b106 F K25 s l1 l2 l3 l4 l5 l7 l8 l9 l10 t0 0))
def f_M_aggregate_b25 (F : Nat) : Nat → St → Int32 → Int32 → Int32 → Int32 → Int64 → Int32 → Int32 → Int32 → Option (Int64 × St)
  | 0, _, _, _, _, _, _, _, _, _ => none
  | n + 1, s, l1, l2, l3, l4, l5, l7, l8, l9 =>
    if (gI s 2527) ≤ l9 then
      (some (l5, s))
    else
      ((f_M_isChosen F s l1 l2 l9).bind fun x1 => (if x1.1 = 0 then
        (f_M_aggregate_b25 F n x1.2 l1 l2 l3 l4 l5 l7 l8 (l9 + 1))
      else
        ((f_M_fieldIn F x1.2 l9 l4).bind fun x2 => (if l3 ≤ 3 then
          (f_M_aggregate_b78 F (f_M_aggregate_b25 F n) x2.2 l1 l2 l3 l4 l5 l7 l8 l9 x2.1 0)
        else
          ((f_M_times F x2.2 l1 l2 x2.1 l9).bind fun x4 => (if x4.1 = 0 then
            (f_M_aggregate_b78 F (f_M_aggregate_b25 F n) x4.2 l1 l2 l3 l4 l5 l7 l8 l9 x2.1 1)
          else
            (f_M_aggregate_b78 F (f_M_aggregate_b25 F n) x4.2 l1 l2 l3 l4 l5 l7 l8 l9 x2.1 0)))))))
def f_M_aggregate (F : Nat) (s : St) (p1 : Int32) (p2 : Int32) : Option (Int64 × St) :=
  f_M_aggregate_b25 F F s p1 p2 (p2 &&& 7) ((p2 >>> ((3 : Int32) &&& 31)) &&& 7) 0 0 0 0
set_option maxHeartbeats 1000000 in
theorem c_f_M_aggregate_b219 {F : Nat} {Γ : Ga} {D : DD} {B : Nat} {r : Int64} {s' : St} (X : Cx Γ RX11 cX11_aggregate 13 D B { frames := 4, cells := 0, slots := 0, locals := 102 }) (hr : (Gme Γ).sig.returnType = (some .long)) {K25 : St → Int32 → Int32 → Int32 → Int32 → Int64 → Int32 → Int32 → Int32 → Option (Int64 × St)} (hK25 : ∀ {s : St} {l1 : Int32} {l2 : Int32} {l3 : Int32} {l4 : Int32} {l5 : Int64} {l7 : Int32} {l8 : Int32} {l9 : Int32}, K25 s l1 l2 l3 l4 l5 l7 l8 l9 = some (r, s') → V Γ D B true 13 (QM Γ D B true s' (some (.long r)) 0 0) 0 0 s 25 [(0, .ref (B + 39)), (1, .int l1), (2, .int l2), (3, .int l3), (4, .int l4), (5, .long l5), (7, .int l7), (8, .int l8), (9, .int l9)] []) {s : St} {l1 : Int32} {l2 : Int32} {l3 : Int32} {l4 : Int32} {l7 : Int32} {l8 : Int32} {l9 : Int32} {l12 : Int32} {t0 : Int64} (hf : f_M_aggregate_b219 F K25 s l1 l2 l3 l4 l7 l8 l9 l12 t0 = some (r, s')) : V Γ D B true 13 (QM Γ D B true s' (some (.long r)) 0 0) 0 0 s 219 [(0, .ref (B + 39)), (1, .int l1), (2, .int l2), (3, .int l3), (4, .int l4), (7, .int l7), (8, .int l8), (9, .int l9), (12, .int l12)] [.long t0] := by
  unfold f_M_aggregate_b219 at hf
  refine r_lstore (pc := 219) (lv' := [(0, .ref (B + 39)), (1, .int l1), (2, .int l2), (3, .int l3), (4, .int l4), (5, .long t0), (7, .int l7), (8, .int l8), (9, .int l9), (12, .int l12)]) X dX11_aggregate_219 (by decide) [1, 2, 3, 4, 5, 0, 6, 7, 8, 9] rfl ?_
  refine r_iload (pc := 221) X dX11_aggregate_221 9 rfl ?_
  refine r_iload (pc := 223) X dX11_aggregate_223 7 rfl ?_
  refine b_icmp_le (tgt := 233) (pc := 225) X dX11_aggregate_225 (by decide) hf (fun hf => ?_) (fun hf => ?_)
  · refine r_iload (pc := 233) X dX11_aggregate_233 7 rfl ?_
    refine r_istore (pc := 235) (lv' := [(0, .ref (B + 39)), (1, .int l1), (2, .int l2), (3, .int l3), (4, .int l4), (5, .long t0), (7, .int l7), (8, .int l8), (9, .int l9)]) X dX11_aggregate_235 (by decide) [1, 2, 3, 4, 5, 6, 7, 0, 8] rfl ?_
    refine r_iinc (v := l7 + 1) (lv' := [(0, .ref (B + 39)), (1, .int l1), (2, .int l2), (3, .int l3), (4, .int l4), (5, .long t0), (7, .int (l7 + 1)), (8, .int l8), (9, .int l9)]) (pc := 237) X dX11_aggregate_237 6 rfl rfl (by decide) [1, 2, 3, 4, 5, 6, 0, 7, 8] rfl ?_
    refine r_iinc (v := l9 + 1) (lv' := [(0, .ref (B + 39)), (1, .int l1), (2, .int l2), (3, .int l3), (4, .int l4), (5, .long t0), (7, .int (l7 + 1)), (8, .int l8), (9, .int (l9 + 1))]) (pc := 240) X dX11_aggregate_240 8 rfl rfl (by decide) [1, 2, 3, 4, 5, 6, 7, 8, 0] rfl ?_
    refine r_goto (tgt := 25) (pc := 243) X dX11_aggregate_243 (by decide) ?_
    exact hK25 hf
  · refine r_iload (pc := 228) X dX11_aggregate_228 9 rfl ?_
    refine r_goto (tgt := 235) (pc := 230) X dX11_aggregate_230 (by decide) ?_
    refine r_istore (pc := 235) (lv' := [(0, .ref (B + 39)), (1, .int l1), (2, .int l2), (3, .int l3), (4, .int l4), (5, .long t0), (7, .int l7), (8, .int l12), (9, .int l9)]) X dX11_aggregate_235 (by decide) [1, 2, 3, 4, 5, 6, 7, 0, 8] rfl ?_
    refine r_iinc (v := l7 + 1) (lv' := [(0, .ref (B + 39)), (1, .int l1), (2, .int l2), (3, .int l3), (4, .int l4), (5, .long t0), (7, .int (l7 + 1)), (8, .int l12), (9, .int l9)]) (pc := 237) X dX11_aggregate_237 6 rfl rfl (by decide) [1, 2, 3, 4, 5, 6, 0, 7, 8] rfl ?_
    refine r_iinc (v := l9 + 1) (lv' := [(0, .ref (B + 39)), (1, .int l1), (2, .int l2), (3, .int l3), (4, .int l4), (5, .long t0), (7, .int (l7 + 1)), (8, .int l12), (9, .int (l9 + 1))]) (pc := 240) X dX11_aggregate_240 8 rfl rfl (by decide) [1, 2, 3, 4, 5, 6, 7, 8, 0] rfl ?_
    refine r_goto (tgt := 25) (pc := 243) X dX11_aggregate_243 (by decide) ?_
    exact hK25 hf
set_option maxHeartbeats 1000000 in
theorem c_f_M_aggregate_b106 {F : Nat} {Γ : Ga} {D : DD} {B : Nat} {r : Int64} {s' : St} (X : Cx Γ RX11 cX11_aggregate 13 D B { frames := 4, cells := 0, slots := 0, locals := 102 }) (hr : (Gme Γ).sig.returnType = (some .long)) {K25 : St → Int32 → Int32 → Int32 → Int32 → Int64 → Int32 → Int32 → Int32 → Option (Int64 × St)} (hK25 : ∀ {s : St} {l1 : Int32} {l2 : Int32} {l3 : Int32} {l4 : Int32} {l5 : Int64} {l7 : Int32} {l8 : Int32} {l9 : Int32}, K25 s l1 l2 l3 l4 l5 l7 l8 l9 = some (r, s') → V Γ D B true 13 (QM Γ D B true s' (some (.long r)) 0 0) 0 0 s 25 [(0, .ref (B + 39)), (1, .int l1), (2, .int l2), (3, .int l3), (4, .int l4), (5, .long l5), (7, .int l7), (8, .int l8), (9, .int l9)] []) {s : St} {l1 : Int32} {l2 : Int32} {l3 : Int32} {l4 : Int32} {l5 : Int64} {l7 : Int32} {l8 : Int32} {l9 : Int32} {l10 : Int32} {l11 : Int32} {t0 : Int32} (hf : f_M_aggregate_b106 F K25 s l1 l2 l3 l4 l5 l7 l8 l9 l10 l11 t0 = some (r, s')) : V Γ D B true 13 (QM Γ D B true s' (some (.long r)) 0 0) 0 0 s 106 [(0, .ref (B + 39)), (1, .int l1), (2, .int l2), (3, .int l3), (4, .int l4), (5, .long l5), (7, .int l7), (8, .int l8), (9, .int l9), (10, .int l10), (11, .int l11)] [.int t0] := by
  unfold f_M_aggregate_b106 at hf
  refine r_istore (pc := 106) (lv' := [(0, .ref (B + 39)), (1, .int l1), (2, .int l2), (3, .int l3), (4, .int l4), (5, .long l5), (7, .int l7), (8, .int l8), (9, .int l9), (10, .int l10), (11, .int l11), (12, .int t0)]) X dX11_aggregate_106 (by decide) [1, 2, 3, 4, 5, 6, 7, 8, 9, 10, 11, 0] rfl ?_
  refine r_iload_n (pc := 108) X dX11_aggregate_108 3 rfl ?_
  refine r_iconst (v := 2) (pc := 109) X dX11_aggregate_109 (by decide) ?_
  refine b_icmp_ge (tgt := 132) (pc := 110) X dX11_aggregate_110 (by decide) hf (fun hf => ?_) (fun hf => ?_)
  · refine r_iload_n (pc := 132) X dX11_aggregate_132 3 rfl ?_
    refine r_iconst (v := 4) (pc := 133) X dX11_aggregate_133 (by decide) ?_
    refine b_icmp_ge (tgt := 181) (pc := 134) X dX11_aggregate_134 (by decide) hf (fun hf => ?_) (fun hf => ?_)
    · refine r_iload_n (pc := 181) X dX11_aggregate_181 3 rfl ?_
      refine r_iconst (v := 4) (pc := 182) X dX11_aggregate_182 (by decide) ?_
      refine b_icmp_ne (tgt := 204) (pc := 183) X dX11_aggregate_183 (by decide) hf (fun hf => ?_) (fun hf => ?_)
      · refine r_lload (pc := 186) X dX11_aggregate_186 5 rfl ?_
        refine r_iload (pc := 188) X dX11_aggregate_188 10 rfl ?_
        refine b_if_eq (tgt := 197) (pc := 190) X dX11_aggregate_190 (by decide) hf (fun hf => ?_) (fun hf => ?_)
        · refine r_lconst (v := 0) (pc := 197) X dX11_aggregate_197 (by decide) ?_
          refine r_ladd (pc := 198) X dX11_aggregate_198 ?_
          refine r_lstore (pc := 199) (lv' := [(0, .ref (B + 39)), (1, .int l1), (2, .int l2), (3, .int l3), (4, .int l4), (5, .long (l5 + 0)), (7, .int l7), (8, .int l8), (9, .int l9)]) X dX11_aggregate_199 (by decide) [1, 2, 3, 4, 5, 0, 6, 7, 8] rfl ?_
          refine r_goto (tgt := 237) (pc := 201) X dX11_aggregate_201 (by decide) ?_
          refine r_iinc (v := l7 + 1) (lv' := [(0, .ref (B + 39)), (1, .int l1), (2, .int l2), (3, .int l3), (4, .int l4), (5, .long (l5 + 0)), (7, .int (l7 + 1)), (8, .int l8), (9, .int l9)]) (pc := 237) X dX11_aggregate_237 6 rfl rfl (by decide) [1, 2, 3, 4, 5, 6, 0, 7, 8] rfl ?_
          refine r_iinc (v := l9 + 1) (lv' := [(0, .ref (B + 39)), (1, .int l1), (2, .int l2), (3, .int l3), (4, .int l4), (5, .long (l5 + 0)), (7, .int (l7 + 1)), (8, .int l8), (9, .int (l9 + 1))]) (pc := 240) X dX11_aggregate_240 8 rfl rfl (by decide) [1, 2, 3, 4, 5, 6, 7, 8, 0] rfl ?_
          refine r_goto (tgt := 25) (pc := 243) X dX11_aggregate_243 (by decide) ?_
          exact hK25 hf
        · refine r_lconst (v := 1) (pc := 193) X dX11_aggregate_193 (by decide) ?_
          refine r_goto (tgt := 198) (pc := 194) X dX11_aggregate_194 (by decide) ?_
          refine r_ladd (pc := 198) X dX11_aggregate_198 ?_
          refine r_lstore (pc := 199) (lv' := [(0, .ref (B + 39)), (1, .int l1), (2, .int l2), (3, .int l3), (4, .int l4), (5, .long (l5 + 1)), (7, .int l7), (8, .int l8), (9, .int l9)]) X dX11_aggregate_199 (by decide) [1, 2, 3, 4, 5, 0, 6, 7, 8] rfl ?_
          refine r_goto (tgt := 237) (pc := 201) X dX11_aggregate_201 (by decide) ?_
          refine r_iinc (v := l7 + 1) (lv' := [(0, .ref (B + 39)), (1, .int l1), (2, .int l2), (3, .int l3), (4, .int l4), (5, .long (l5 + 1)), (7, .int (l7 + 1)), (8, .int l8), (9, .int l9)]) (pc := 237) X dX11_aggregate_237 6 rfl rfl (by decide) [1, 2, 3, 4, 5, 6, 0, 7, 8] rfl ?_
          refine r_iinc (v := l9 + 1) (lv' := [(0, .ref (B + 39)), (1, .int l1), (2, .int l2), (3, .int l3), (4, .int l4), (5, .long (l5 + 1)), (7, .int (l7 + 1)), (8, .int l8), (9, .int (l9 + 1))]) (pc := 240) X dX11_aggregate_240 8 rfl rfl (by decide) [1, 2, 3, 4, 5, 6, 7, 8, 0] rfl ?_
          refine r_goto (tgt := 25) (pc := 243) X dX11_aggregate_243 (by decide) ?_
          exact hK25 hf
      · refine r_iload (pc := 204) X dX11_aggregate_204 11 rfl ?_
        refine r_iload (pc := 206) X dX11_aggregate_206 7 rfl ?_
        refine b_icmp_le (tgt := 217) (pc := 208) X dX11_aggregate_208 (by decide) hf (fun hf => ?_) (fun hf => ?_)
        · refine r_lload (pc := 217) X dX11_aggregate_217 5 rfl ?_
          refine r_forget (lv' := [(0, .ref (B + 39)), (1, .int l1), (2, .int l2), (3, .int l3), (4, .int l4), (7, .int l7), (8, .int l8), (9, .int l9), (12, .int t0)]) [0, 1, 2, 3, 4, 6, 7, 8, 11] rfl ?_
          exact c_f_M_aggregate_b219 X hr hK25 hf
        · refine r_iload (pc := 211) X dX11_aggregate_211 9 rfl ?_
          refine r_i2l (pc := 213) X dX11_aggregate_213 ?_
          refine r_goto (tgt := 219) (pc := 214) X dX11_aggregate_214 (by decide) ?_
          refine r_forget (lv' := [(0, .ref (B + 39)), (1, .int l1), (2, .int l2), (3, .int l3), (4, .int l4), (7, .int l7), (8, .int l8), (9, .int l9), (12, .int t0)]) [0, 1, 2, 3, 4, 6, 7, 8, 11] rfl ?_
          exact c_f_M_aggregate_b219 X hr hK25 hf
    · refine r_iload (pc := 137) X dX11_aggregate_137 6 rfl ?_
      refine b_if_eq (tgt := 168) (pc := 139) X dX11_aggregate_139 (by decide) hf (fun hf => ?_) (fun hf => ?_)
      · refine r_iload (pc := 168) X dX11_aggregate_168 9 rfl ?_
        refine r_i2l (pc := 170) X dX11_aggregate_170 ?_
        refine r_goto (tgt := 176) (pc := 171) X dX11_aggregate_171 (by decide) ?_
        refine r_lstore (pc := 176) (lv' := [(0, .ref (B + 39)), (1, .int l1), (2, .int l2), (3, .int l3), (4, .int l4), (5, .long l10.toInt64), (7, .int l7), (8, .int l8), (9, .int l9)]) X dX11_aggregate_176 (by decide) [1, 2, 3, 4, 5, 0, 6, 7, 8] rfl ?_
        refine r_goto (tgt := 237) (pc := 178) X dX11_aggregate_178 (by decide) ?_
        refine r_iinc (v := l7 + 1) (lv' := [(0, .ref (B + 39)), (1, .int l1), (2, .int l2), (3, .int l3), (4, .int l4), (5, .long l10.toInt64), (7, .int (l7 + 1)), (8, .int l8), (9, .int l9)]) (pc := 237) X dX11_aggregate_237 6 rfl rfl (by decide) [1, 2, 3, 4, 5, 6, 0, 7, 8] rfl ?_
        refine r_iinc (v := l9 + 1) (lv' := [(0, .ref (B + 39)), (1, .int l1), (2, .int l2), (3, .int l3), (4, .int l4), (5, .long l10.toInt64), (7, .int (l7 + 1)), (8, .int l8), (9, .int (l9 + 1))]) (pc := 240) X dX11_aggregate_240 8 rfl rfl (by decide) [1, 2, 3, 4, 5, 6, 7, 8, 0] rfl ?_
        refine r_goto (tgt := 25) (pc := 243) X dX11_aggregate_243 (by decide) ?_
        exact hK25 hf
      · refine r_iload_n (pc := 142) X dX11_aggregate_142 3 rfl ?_
        refine r_iconst (v := 2) (pc := 143) X dX11_aggregate_143 (by decide) ?_
        refine b_icmp_ne (tgt := 159) (pc := 144) X dX11_aggregate_144 (by decide) hf (fun hf => ?_) (fun hf => ?_)
        · refine r_iload (pc := 147) X dX11_aggregate_147 9 rfl ?_
          refine r_i2l (pc := 149) X dX11_aggregate_149 ?_
          refine r_lload (pc := 150) X dX11_aggregate_150 5 rfl ?_
          refine b_lcmp_ge (tgt := 174) (pc := 152) X dX11_aggregate_152 dX11_aggregate_153 (by decide) hf (fun hf => ?_) (fun hf => ?_)
          · refine r_lload (pc := 174) X dX11_aggregate_174 5 rfl ?_
            refine r_lstore (pc := 176) (lv' := [(0, .ref (B + 39)), (1, .int l1), (2, .int l2), (3, .int l3), (4, .int l4), (5, .long l5), (7, .int l7), (8, .int l8), (9, .int l9)]) X dX11_aggregate_176 (by decide) [1, 2, 3, 4, 5, 0, 6, 7, 8] rfl ?_
            refine r_goto (tgt := 237) (pc := 178) X dX11_aggregate_178 (by decide) ?_
            refine r_iinc (v := l7 + 1) (lv' := [(0, .ref (B + 39)), (1, .int l1), (2, .int l2), (3, .int l3), (4, .int l4), (5, .long l5), (7, .int (l7 + 1)), (8, .int l8), (9, .int l9)]) (pc := 237) X dX11_aggregate_237 6 rfl rfl (by decide) [1, 2, 3, 4, 5, 6, 0, 7, 8] rfl ?_
            refine r_iinc (v := l9 + 1) (lv' := [(0, .ref (B + 39)), (1, .int l1), (2, .int l2), (3, .int l3), (4, .int l4), (5, .long l5), (7, .int (l7 + 1)), (8, .int l8), (9, .int (l9 + 1))]) (pc := 240) X dX11_aggregate_240 8 rfl rfl (by decide) [1, 2, 3, 4, 5, 6, 7, 8, 0] rfl ?_
            refine r_goto (tgt := 25) (pc := 243) X dX11_aggregate_243 (by decide) ?_
            exact hK25 hf
          · refine r_goto (tgt := 168) (pc := 156) X dX11_aggregate_156 (by decide) ?_
            refine r_iload (pc := 168) X dX11_aggregate_168 9 rfl ?_
            refine r_i2l (pc := 170) X dX11_aggregate_170 ?_
            refine r_goto (tgt := 176) (pc := 171) X dX11_aggregate_171 (by decide) ?_
            refine r_lstore (pc := 176) (lv' := [(0, .ref (B + 39)), (1, .int l1), (2, .int l2), (3, .int l3), (4, .int l4), (5, .long l10.toInt64), (7, .int l7), (8, .int l8), (9, .int l9)]) X dX11_aggregate_176 (by decide) [1, 2, 3, 4, 5, 0, 6, 7, 8] rfl ?_
            refine r_goto (tgt := 237) (pc := 178) X dX11_aggregate_178 (by decide) ?_
            refine r_iinc (v := l7 + 1) (lv' := [(0, .ref (B + 39)), (1, .int l1), (2, .int l2), (3, .int l3), (4, .int l4), (5, .long l10.toInt64), (7, .int (l7 + 1)), (8, .int l8), (9, .int l9)]) (pc := 237) X dX11_aggregate_237 6 rfl rfl (by decide) [1, 2, 3, 4, 5, 6, 0, 7, 8] rfl ?_
            refine r_iinc (v := l9 + 1) (lv' := [(0, .ref (B + 39)), (1, .int l1), (2, .int l2), (3, .int l3), (4, .int l4), (5, .long l10.toInt64), (7, .int (l7 + 1)), (8, .int l8), (9, .int (l9 + 1))]) (pc := 240) X dX11_aggregate_240 8 rfl rfl (by decide) [1, 2, 3, 4, 5, 6, 7, 8, 0] rfl ?_
            refine r_goto (tgt := 25) (pc := 243) X dX11_aggregate_243 (by decide) ?_
            exact hK25 hf
        · refine r_iload (pc := 159) X dX11_aggregate_159 9 rfl ?_
          refine r_i2l (pc := 161) X dX11_aggregate_161 ?_
          refine r_lload (pc := 162) X dX11_aggregate_162 5 rfl ?_
          refine b_lcmp_le (tgt := 174) (pc := 164) X dX11_aggregate_164 dX11_aggregate_165 (by decide) hf (fun hf => ?_) (fun hf => ?_)
          · refine r_lload (pc := 174) X dX11_aggregate_174 5 rfl ?_
            refine r_lstore (pc := 176) (lv' := [(0, .ref (B + 39)), (1, .int l1), (2, .int l2), (3, .int l3), (4, .int l4), (5, .long l5), (7, .int l7), (8, .int l8), (9, .int l9)]) X dX11_aggregate_176 (by decide) [1, 2, 3, 4, 5, 0, 6, 7, 8] rfl ?_
            refine r_goto (tgt := 237) (pc := 178) X dX11_aggregate_178 (by decide) ?_
            refine r_iinc (v := l7 + 1) (lv' := [(0, .ref (B + 39)), (1, .int l1), (2, .int l2), (3, .int l3), (4, .int l4), (5, .long l5), (7, .int (l7 + 1)), (8, .int l8), (9, .int l9)]) (pc := 237) X dX11_aggregate_237 6 rfl rfl (by decide) [1, 2, 3, 4, 5, 6, 0, 7, 8] rfl ?_
            refine r_iinc (v := l9 + 1) (lv' := [(0, .ref (B + 39)), (1, .int l1), (2, .int l2), (3, .int l3), (4, .int l4), (5, .long l5), (7, .int (l7 + 1)), (8, .int l8), (9, .int (l9 + 1))]) (pc := 240) X dX11_aggregate_240 8 rfl rfl (by decide) [1, 2, 3, 4, 5, 6, 7, 8, 0] rfl ?_
            refine r_goto (tgt := 25) (pc := 243) X dX11_aggregate_243 (by decide) ?_
            exact hK25 hf
          · refine r_iload (pc := 168) X dX11_aggregate_168 9 rfl ?_
            refine r_i2l (pc := 170) X dX11_aggregate_170 ?_
            refine r_goto (tgt := 176) (pc := 171) X dX11_aggregate_171 (by decide) ?_
            refine r_lstore (pc := 176) (lv' := [(0, .ref (B + 39)), (1, .int l1), (2, .int l2), (3, .int l3), (4, .int l4), (5, .long l10.toInt64), (7, .int l7), (8, .int l8), (9, .int l9)]) X dX11_aggregate_176 (by decide) [1, 2, 3, 4, 5, 0, 6, 7, 8] rfl ?_
            refine r_goto (tgt := 237) (pc := 178) X dX11_aggregate_178 (by decide) ?_
            refine r_iinc (v := l7 + 1) (lv' := [(0, .ref (B + 39)), (1, .int l1), (2, .int l2), (3, .int l3), (4, .int l4), (5, .long l10.toInt64), (7, .int (l7 + 1)), (8, .int l8), (9, .int l9)]) (pc := 237) X dX11_aggregate_237 6 rfl rfl (by decide) [1, 2, 3, 4, 5, 6, 0, 7, 8] rfl ?_
            refine r_iinc (v := l9 + 1) (lv' := [(0, .ref (B + 39)), (1, .int l1), (2, .int l2), (3, .int l3), (4, .int l4), (5, .long l10.toInt64), (7, .int (l7 + 1)), (8, .int l8), (9, .int (l9 + 1))]) (pc := 240) X dX11_aggregate_240 8 rfl rfl (by decide) [1, 2, 3, 4, 5, 6, 7, 8, 0] rfl ?_
            refine r_goto (tgt := 25) (pc := 243) X dX11_aggregate_243 (by decide) ?_
            exact hK25 hf
  · refine r_lload (pc := 113) X dX11_aggregate_113 5 rfl ?_
    refine r_iload_n (pc := 115) X dX11_aggregate_115 3 rfl ?_
    refine b_if_ne (tgt := 123) (pc := 116) X dX11_aggregate_116 (by decide) hf (fun hf => ?_) (fun hf => ?_)
    · refine r_lconst (v := 1) (pc := 119) X dX11_aggregate_119 (by decide) ?_
      refine r_goto (tgt := 126) (pc := 120) X dX11_aggregate_120 (by decide) ?_
      refine r_ladd (pc := 126) X dX11_aggregate_126 ?_
      refine r_lstore (pc := 127) (lv' := [(0, .ref (B + 39)), (1, .int l1), (2, .int l2), (3, .int l3), (4, .int l4), (5, .long (l5 + 1)), (7, .int l7), (8, .int l8), (9, .int l9)]) X dX11_aggregate_127 (by decide) [1, 2, 3, 4, 5, 0, 6, 7, 8] rfl ?_
      refine r_goto (tgt := 237) (pc := 129) X dX11_aggregate_129 (by decide) ?_
      refine r_iinc (v := l7 + 1) (lv' := [(0, .ref (B + 39)), (1, .int l1), (2, .int l2), (3, .int l3), (4, .int l4), (5, .long (l5 + 1)), (7, .int (l7 + 1)), (8, .int l8), (9, .int l9)]) (pc := 237) X dX11_aggregate_237 6 rfl rfl (by decide) [1, 2, 3, 4, 5, 6, 0, 7, 8] rfl ?_
      refine r_iinc (v := l9 + 1) (lv' := [(0, .ref (B + 39)), (1, .int l1), (2, .int l2), (3, .int l3), (4, .int l4), (5, .long (l5 + 1)), (7, .int (l7 + 1)), (8, .int l8), (9, .int (l9 + 1))]) (pc := 240) X dX11_aggregate_240 8 rfl rfl (by decide) [1, 2, 3, 4, 5, 6, 7, 8, 0] rfl ?_
      refine r_goto (tgt := 25) (pc := 243) X dX11_aggregate_243 (by decide) ?_
      exact hK25 hf
    · refine r_iload (pc := 123) X dX11_aggregate_123 9 rfl ?_
      refine r_i2l (pc := 125) X dX11_aggregate_125 ?_
      refine r_ladd (pc := 126) X dX11_aggregate_126 ?_
      refine r_lstore (pc := 127) (lv' := [(0, .ref (B + 39)), (1, .int l1), (2, .int l2), (3, .int l3), (4, .int l4), (5, .long (l5 + l10.toInt64)), (7, .int l7), (8, .int l8), (9, .int l9)]) X dX11_aggregate_127 (by decide) [1, 2, 3, 4, 5, 0, 6, 7, 8] rfl ?_
      refine r_goto (tgt := 237) (pc := 129) X dX11_aggregate_129 (by decide) ?_
      refine r_iinc (v := l7 + 1) (lv' := [(0, .ref (B + 39)), (1, .int l1), (2, .int l2), (3, .int l3), (4, .int l4), (5, .long (l5 + l10.toInt64)), (7, .int (l7 + 1)), (8, .int l8), (9, .int l9)]) (pc := 237) X dX11_aggregate_237 6 rfl rfl (by decide) [1, 2, 3, 4, 5, 6, 0, 7, 8] rfl ?_
      refine r_iinc (v := l9 + 1) (lv' := [(0, .ref (B + 39)), (1, .int l1), (2, .int l2), (3, .int l3), (4, .int l4), (5, .long (l5 + l10.toInt64)), (7, .int (l7 + 1)), (8, .int l8), (9, .int (l9 + 1))]) (pc := 240) X dX11_aggregate_240 8 rfl rfl (by decide) [1, 2, 3, 4, 5, 6, 7, 8, 0] rfl ?_
      refine r_goto (tgt := 25) (pc := 243) X dX11_aggregate_243 (by decide) ?_
      exact hK25 hf
set_option maxHeartbeats 1000000 in
theorem c_f_M_aggregate_b78 {F : Nat} {Γ : Ga} {D : DD} {B : Nat} {r : Int64} {s' : St} (X : Cx Γ RX11 cX11_aggregate 13 D B { frames := 4, cells := 0, slots := 0, locals := 102 }) (hr : (Gme Γ).sig.returnType = (some .long)) {K25 : St → Int32 → Int32 → Int32 → Int32 → Int64 → Int32 → Int32 → Int32 → Option (Int64 × St)} (hK25 : ∀ {s : St} {l1 : Int32} {l2 : Int32} {l3 : Int32} {l4 : Int32} {l5 : Int64} {l7 : Int32} {l8 : Int32} {l9 : Int32}, K25 s l1 l2 l3 l4 l5 l7 l8 l9 = some (r, s') → V Γ D B true 13 (QM Γ D B true s' (some (.long r)) 0 0) 0 0 s 25 [(0, .ref (B + 39)), (1, .int l1), (2, .int l2), (3, .int l3), (4, .int l4), (5, .long l5), (7, .int l7), (8, .int l8), (9, .int l9)] []) {s : St} {l1 : Int32} {l2 : Int32} {l3 : Int32} {l4 : Int32} {l5 : Int64} {l7 : Int32} {l8 : Int32} {l9 : Int32} {l10 : Int32} {t0 : Int32} (hf : f_M_aggregate_b78 F K25 s l1 l2 l3 l4 l5 l7 l8 l9 l10 t0 = some (r, s')) : V Γ D B true 13 (QM Γ D B true s' (some (.long r)) 0 0) 0 0 s 78 [(0, .ref (B + 39)), (1, .int l1), (2, .int l2), (3, .int l3), (4, .int l4), (5, .long l5), (7, .int l7), (8, .int l8), (9, .int l9), (10, .int l10)] [.int t0] := by
  unfold f_M_aggregate_b78 at hf
  refine r_istore (pc := 78) (lv' := [(0, .ref (B + 39)), (1, .int l1), (2, .int l2), (3, .int l3), (4, .int l4), (5, .long l5), (7, .int l7), (8, .int l8), (9, .int l9), (10, .int l10), (11, .int t0)]) X dX11_aggregate_78 (by decide) [1, 2, 3, 4, 5, 6, 7, 8, 9, 10, 0] rfl ?_
  refine r_iload (pc := 80) X dX11_aggregate_80 10 rfl ?_
  refine b_if_eq (tgt := 105) (pc := 82) X dX11_aggregate_82 (by decide) hf (fun hf => ?_) (fun hf => ?_)
  · refine r_iconst (v := 0) (pc := 105) X dX11_aggregate_105 (by decide) ?_
    exact c_f_M_aggregate_b106 X hr hK25 hf
  · refine r_iload_n (pc := 85) X dX11_aggregate_85 3 rfl ?_
    refine r_iconst (v := 5) (pc := 86) X dX11_aggregate_86 (by decide) ?_
    refine b_icmp_ne (tgt := 105) (pc := 87) X dX11_aggregate_87 (by decide) hf (fun hf => ?_) (fun hf => ?_)
    · refine r_aload_n (x := some 39) (pc := 90) X dX11_aggregate_90 0 rfl ?_
      refine r_iload_n (pc := 91) X dX11_aggregate_91 1 rfl ?_
      refine r_iload_n (pc := 92) X dX11_aggregate_92 2 rfl ?_
      refine r_iload (pc := 93) X dX11_aggregate_93 9 rfl ?_
      refine r_aload_n (x := some 39) (pc := 95) X dX11_aggregate_95 0 rfl ?_
      refine r_get (j := 31) (pc := 96) X ce_39 rfl inT11 (by decide) w_1111 rfl dX11_aggregate_96 ?_
      refine bnd hf (fun x3 h3 hf => ?_)
      refine r_callVi (As := [.int l1, .int l2, .int l10, .int (gI s 2527)]) (st := []) (pc := 99) X (c_f_M_times h3) rfl w_1386 w_1388 w_59 w_84 w_1389 hdV_X11_times (Rc.s rfl ce_39) (by decide) (by decide) (by decide) (Nat.le_of_ble_eq_true rfl) dX11_aggregate_99 rfl ?_
      refine r_goto (tgt := 106) (pc := 102) X dX11_aggregate_102 (by decide) ?_
      exact c_f_M_aggregate_b106 X hr hK25 hf
    · refine r_iconst (v := 0) (pc := 105) X dX11_aggregate_105 (by decide) ?_
      exact c_f_M_aggregate_b106 X hr hK25 hf
set_option maxHeartbeats 1000000 in
theorem c_f_M_aggregate_b25 {F : Nat} {Γ : Ga} {D : DD} {B : Nat} {r : Int64} {s' : St} (X : Cx Γ RX11 cX11_aggregate 13 D B { frames := 4, cells := 0, slots := 0, locals := 102 }) (hr : (Gme Γ).sig.returnType = (some .long)) : ∀ (n : Nat) {s : St} {l1 : Int32} {l2 : Int32} {l3 : Int32} {l4 : Int32} {l5 : Int64} {l7 : Int32} {l8 : Int32} {l9 : Int32}, f_M_aggregate_b25 F n s l1 l2 l3 l4 l5 l7 l8 l9 = some (r, s') → V Γ D B true 13 (QM Γ D B true s' (some (.long r)) 0 0) 0 0 s 25 [(0, .ref (B + 39)), (1, .int l1), (2, .int l2), (3, .int l3), (4, .int l4), (5, .long l5), (7, .int l7), (8, .int l8), (9, .int l9)] [] := by
  intro n
  induction n with
  | zero => intro s l1 l2 l3 l4 l5 l7 l8 l9 hf; rw [f_M_aggregate_b25] at hf; cases hf
  | succ n ih =>
    intro s l1 l2 l3 l4 l5 l7 l8 l9 hf
    rw [f_M_aggregate_b25] at hf
    refine r_iload (pc := 25) X dX11_aggregate_25 8 rfl ?_
    refine r_aload_n (x := some 39) (pc := 27) X dX11_aggregate_27 0 rfl ?_
    refine r_get (j := 31) (pc := 28) X ce_39 rfl inT11 (by decide) w_1111 rfl dX11_aggregate_28 ?_
    refine b_icmp_ge (tgt := 246) (pc := 31) X dX11_aggregate_31 (by decide) hf (fun hf => ?_) (fun hf => ?_)
    · refine r_lload (pc := 246) X dX11_aggregate_246 5 rfl ?_
      exact e_lret (pc := 248) X hr hf (Nat.le_refl _) (Nat.le_refl _) dX11_aggregate_248
    · refine r_aload_n (x := some 39) (pc := 34) X dX11_aggregate_34 0 rfl ?_
      refine r_iload_n (pc := 35) X dX11_aggregate_35 1 rfl ?_
      refine r_iload_n (pc := 36) X dX11_aggregate_36 2 rfl ?_
      refine r_iload (pc := 37) X dX11_aggregate_37 8 rfl ?_
      refine bnd hf (fun x1 h1 hf => ?_)
      refine r_callVi (As := [.int l1, .int l2, .int l9]) (st := []) (pc := 39) X (c_f_M_isChosen h1) rfl w_1371 w_1373 w_56 w_84 w_1374 hdV_X11_isChosen (Rc.s rfl ce_39) (by decide) (by decide) (by decide) (Nat.le_of_ble_eq_true rfl) dX11_aggregate_39 rfl ?_
      refine b_if_eq (tgt := 240) (pc := 42) X dX11_aggregate_42 (by decide) hf (fun hf => ?_) (fun hf => ?_)
      · refine r_iinc (v := l9 + 1) (lv' := [(0, .ref (B + 39)), (1, .int l1), (2, .int l2), (3, .int l3), (4, .int l4), (5, .long l5), (7, .int l7), (8, .int l8), (9, .int (l9 + 1))]) (pc := 240) X dX11_aggregate_240 8 rfl rfl (by decide) [1, 2, 3, 4, 5, 6, 7, 8, 0] rfl ?_
        refine r_goto (tgt := 25) (pc := 243) X dX11_aggregate_243 (by decide) ?_
        exact ih hf
      · refine r_aload_n (x := some 39) (pc := 45) X dX11_aggregate_45 0 rfl ?_
        refine r_iload (pc := 46) X dX11_aggregate_46 8 rfl ?_
        refine r_iload (pc := 48) X dX11_aggregate_48 4 rfl ?_
        refine bnd hf (fun x2 h2 hf => ?_)
        refine r_callVi (As := [.int l9, .int l4]) (st := []) (pc := 50) X (c_f_M_fieldIn h2) rfl w_1379 w_1381 w_58 w_84 w_1382 hdV_X11_fieldIn (Rc.s rfl ce_39) (by decide) (by decide) (by decide) (Nat.le_of_ble_eq_true rfl) dX11_aggregate_50 rfl ?_
        refine r_istore (pc := 53) (lv' := [(0, .ref (B + 39)), (1, .int l1), (2, .int l2), (3, .int l3), (4, .int l4), (5, .long l5), (7, .int l7), (8, .int l8), (9, .int l9), (10, .int x2.1)]) X dX11_aggregate_53 (by decide) [1, 2, 3, 4, 5, 6, 7, 8, 9, 0] rfl ?_
        refine r_iload_n (pc := 55) X dX11_aggregate_55 3 rfl ?_
        refine r_iconst (v := 3) (pc := 56) X dX11_aggregate_56 (by decide) ?_
        refine b_icmp_le (tgt := 77) (pc := 57) X dX11_aggregate_57 (by decide) hf (fun hf => ?_) (fun hf => ?_)
        · refine r_iconst (v := 0) (pc := 77) X dX11_aggregate_77 (by decide) ?_
          exact c_f_M_aggregate_b78 X hr (fun hf => ih hf) hf
        · refine r_aload_n (x := some 39) (pc := 60) X dX11_aggregate_60 0 rfl ?_
          refine r_iload_n (pc := 61) X dX11_aggregate_61 1 rfl ?_
          refine r_iload_n (pc := 62) X dX11_aggregate_62 2 rfl ?_
          refine r_iload (pc := 63) X dX11_aggregate_63 9 rfl ?_
          refine r_iload (pc := 65) X dX11_aggregate_65 8 rfl ?_
          refine bnd hf (fun x4 h4 hf => ?_)
          refine r_callVi (As := [.int l1, .int l2, .int x2.1, .int l9]) (st := []) (pc := 67) X (c_f_M_times h4) rfl w_1386 w_1388 w_59 w_84 w_1389 hdV_X11_times (Rc.s rfl ce_39) (by decide) (by decide) (by decide) (Nat.le_of_ble_eq_true rfl) dX11_aggregate_67 rfl ?_
          refine b_if_ne (tgt := 77) (pc := 70) X dX11_aggregate_70 (by decide) hf (fun hf => ?_) (fun hf => ?_)
          · refine r_iconst (v := 1) (pc := 73) X dX11_aggregate_73 (by decide) ?_
            refine r_goto (tgt := 78) (pc := 74) X dX11_aggregate_74 (by decide) ?_
            exact c_f_M_aggregate_b78 X hr (fun hf => ih hf) hf
          · refine r_iconst (v := 0) (pc := 77) X dX11_aggregate_77 (by decide) ?_
            exact c_f_M_aggregate_b78 X hr (fun hf => ih hf) hf
set_option maxHeartbeats 1000000 in
theorem c_f_M_aggregate {F : Nat} {s : St} {p1 : Int32} {p2 : Int32} {r : Int64} {s' : St} (hf : f_M_aggregate F s p1 p2 = some (r, s')) : CC true yX11_aggregate (Cond.code yX11_aggregate cX11_aggregate 13 (some .long)) 4 102 (fun B => [.ref (B + 39), .int p1, .int p2]) s (fun B => (some (.long r))) s' 0 0 := by
  refine CC.of (fun B => [(0, .ref (B + 39)), (1, .int p1), (2, .int p2)]) (by decide +kernel) (fun _ => rfl) (fun _ => (by simp [lg_sl, rfB_cat, catI, catL, catR])) (fun Γ D B X hr hin => ?_)
  have X : Cx Γ RX11 cX11_aggregate 13 D B { frames := 4, cells := 0, slots := 0, locals := 102 } := X
  unfold f_M_aggregate at hf
  refine r_iload_n (pc := 0) X dX11_aggregate_0 2 rfl ?_
  refine r_bipush (v := 7) (pc := 1) X dX11_aggregate_1 (by decide) ?_
  refine r_iand (pc := 3) X dX11_aggregate_3 ?_
  refine r_istore_n (pc := 4) (lv' := [(0, .ref (B + 39)), (1, .int p1), (2, .int p2), (3, .int (p2 &&& 7))]) X dX11_aggregate_4 (by decide) [1, 2, 3, 0] rfl ?_
  refine r_iload_n (pc := 5) X dX11_aggregate_5 2 rfl ?_
  refine r_iconst (v := 3) (pc := 6) X dX11_aggregate_6 (by decide) ?_
  refine r_ishr (pc := 7) X dX11_aggregate_7 ?_
  refine r_bipush (v := 7) (pc := 8) X dX11_aggregate_8 (by decide) ?_
  refine r_iand (pc := 10) X dX11_aggregate_10 ?_
  refine r_istore (pc := 11) (lv' := [(0, .ref (B + 39)), (1, .int p1), (2, .int p2), (3, .int (p2 &&& 7)), (4, .int ((p2 >>> ((3 : Int32) &&& 31)) &&& 7))]) X dX11_aggregate_11 (by decide) [1, 2, 3, 4, 0] rfl ?_
  refine r_lconst (v := 0) (pc := 13) X dX11_aggregate_13 (by decide) ?_
  refine r_lstore (pc := 14) (lv' := [(0, .ref (B + 39)), (1, .int p1), (2, .int p2), (3, .int (p2 &&& 7)), (4, .int ((p2 >>> ((3 : Int32) &&& 31)) &&& 7)), (5, .long 0)]) X dX11_aggregate_14 (by decide) [1, 2, 3, 4, 5, 0] rfl ?_
  refine r_iconst (v := 0) (pc := 16) X dX11_aggregate_16 (by decide) ?_
  refine r_istore (pc := 17) (lv' := [(0, .ref (B + 39)), (1, .int p1), (2, .int p2), (3, .int (p2 &&& 7)), (4, .int ((p2 >>> ((3 : Int32) &&& 31)) &&& 7)), (5, .long 0), (7, .int 0)]) X dX11_aggregate_17 (by decide) [1, 2, 3, 4, 5, 6, 0] rfl ?_
  refine r_iconst (v := 0) (pc := 19) X dX11_aggregate_19 (by decide) ?_
  refine r_istore (pc := 20) (lv' := [(0, .ref (B + 39)), (1, .int p1), (2, .int p2), (3, .int (p2 &&& 7)), (4, .int ((p2 >>> ((3 : Int32) &&& 31)) &&& 7)), (5, .long 0), (7, .int 0), (8, .int 0)]) X dX11_aggregate_20 (by decide) [1, 2, 3, 4, 5, 6, 7, 0] rfl ?_
  refine r_iconst (v := 0) (pc := 22) X dX11_aggregate_22 (by decide) ?_
  refine r_istore (pc := 23) (lv' := [(0, .ref (B + 39)), (1, .int p1), (2, .int p2), (3, .int (p2 &&& 7)), (4, .int ((p2 >>> ((3 : Int32) &&& 31)) &&& 7)), (5, .long 0), (7, .int 0), (8, .int 0), (9, .int 0)]) X dX11_aggregate_23 (by decide) [1, 2, 3, 4, 5, 6, 7, 8, 0] rfl ?_
  exact c_f_M_aggregate_b25 X hr _ hf
/-! f_M_reckoned -/
theorem dX11_reckoned_0 : decode cX11_reckoned 0 = .ok (.iload_n 0, 1) := by decide +kernel
theorem dX11_reckoned_1 : decode cX11_reckoned 1 = .ok (.invokestatic 123, 3) := by decide +kernel
theorem dX11_reckoned_4 : decode cX11_reckoned 4 = .ok (.iconst 1, 1) := by decide +kernel
theorem dX11_reckoned_5 : decode cX11_reckoned 5 = .ok (.if_icmp .ne 18, 3) := by decide +kernel
theorem dX11_reckoned_8 : decode cX11_reckoned 8 = .ok (.lload_n 1, 1) := by decide +kernel
theorem dX11_reckoned_9 : decode cX11_reckoned 9 = .ok (.iload_n 0, 1) := by decide +kernel
theorem dX11_reckoned_10 : decode cX11_reckoned 10 = .ok (.lload_n 3, 1) := by decide +kernel
theorem dX11_reckoned_11 : decode cX11_reckoned 11 = .ok (.invokestatic 228, 3) := by decide +kernel
theorem dX11_reckoned_14 : decode cX11_reckoned 14 = .ok (.ifCond .eq 7, 3) := by decide +kernel
theorem dX11_reckoned_17 : decode cX11_reckoned 17 = .ok (.lconst 1, 1) := by decide +kernel
theorem dX11_reckoned_18 : decode cX11_reckoned 18 = .ok (.goto 4, 3) := by decide +kernel
theorem dX11_reckoned_21 : decode cX11_reckoned 21 = .ok (.lconst 0, 1) := by decide +kernel
theorem dX11_reckoned_22 : decode cX11_reckoned 22 = .ok (.lreturn, 1) := by decide +kernel
theorem dX11_reckoned_23 : decode cX11_reckoned 23 = .ok (.iload_n 0, 1) := by decide +kernel
theorem dX11_reckoned_24 : decode cX11_reckoned 24 = .ok (.bipush 47, 2) := by decide +kernel
theorem dX11_reckoned_26 : decode cX11_reckoned 26 = .ok (.if_icmp .ne 17, 3) := by decide +kernel
theorem dX11_reckoned_29 : decode cX11_reckoned 29 = .ok (.lload_n 3, 1) := by decide +kernel
theorem dX11_reckoned_30 : decode cX11_reckoned 30 = .ok (.lconst 0, 1) := by decide +kernel
theorem dX11_reckoned_31 : decode cX11_reckoned 31 = .ok (.lcmp, 1) := by decide +kernel
theorem dX11_reckoned_32 : decode cX11_reckoned 32 = .ok (.ifCond .ne 7, 3) := by decide +kernel
theorem dX11_reckoned_35 : decode cX11_reckoned 35 = .ok (.lconst 0, 1) := by decide +kernel
theorem dX11_reckoned_36 : decode cX11_reckoned 36 = .ok (.goto 6, 3) := by decide +kernel
theorem dX11_reckoned_39 : decode cX11_reckoned 39 = .ok (.lload_n 1, 1) := by decide +kernel
theorem dX11_reckoned_40 : decode cX11_reckoned 40 = .ok (.lload_n 3, 1) := by decide +kernel
theorem dX11_reckoned_41 : decode cX11_reckoned 41 = .ok (.ldiv, 1) := by decide +kernel
theorem dX11_reckoned_42 : decode cX11_reckoned 42 = .ok (.lreturn, 1) := by decide +kernel
theorem dX11_reckoned_43 : decode cX11_reckoned 43 = .ok (.iload_n 0, 1) := by decide +kernel
theorem dX11_reckoned_44 : decode cX11_reckoned 44 = .ok (.bipush 43, 2) := by decide +kernel
theorem dX11_reckoned_46 : decode cX11_reckoned 46 = .ok (.if_icmp .ne 9, 3) := by decide +kernel
theorem dX11_reckoned_49 : decode cX11_reckoned 49 = .ok (.lload_n 1, 1) := by decide +kernel
theorem dX11_reckoned_50 : decode cX11_reckoned 50 = .ok (.lload_n 3, 1) := by decide +kernel
theorem dX11_reckoned_51 : decode cX11_reckoned 51 = .ok (.ladd, 1) := by decide +kernel
theorem dX11_reckoned_52 : decode cX11_reckoned 52 = .ok (.goto 18, 3) := by decide +kernel
theorem dX11_reckoned_55 : decode cX11_reckoned 55 = .ok (.iload_n 0, 1) := by decide +kernel
theorem dX11_reckoned_56 : decode cX11_reckoned 56 = .ok (.bipush 45, 2) := by decide +kernel
theorem dX11_reckoned_58 : decode cX11_reckoned 58 = .ok (.if_icmp .ne 9, 3) := by decide +kernel
theorem dX11_reckoned_61 : decode cX11_reckoned 61 = .ok (.lload_n 1, 1) := by decide +kernel
theorem dX11_reckoned_62 : decode cX11_reckoned 62 = .ok (.lload_n 3, 1) := by decide +kernel
theorem dX11_reckoned_63 : decode cX11_reckoned 63 = .ok (.lsub, 1) := by decide +kernel
theorem dX11_reckoned_64 : decode cX11_reckoned 64 = .ok (.goto 6, 3) := by decide +kernel
theorem dX11_reckoned_67 : decode cX11_reckoned 67 = .ok (.lload_n 1, 1) := by decide +kernel
theorem dX11_reckoned_68 : decode cX11_reckoned 68 = .ok (.lload_n 3, 1) := by decide +kernel
theorem dX11_reckoned_69 : decode cX11_reckoned 69 = .ok (.lmul, 1) := by decide +kernel
theorem dX11_reckoned_70 : decode cX11_reckoned 70 = .ok (.lreturn, 1) := by decide +kernel
def f_M_reckoned (F : Nat) (s : St) (p0 : Int32) (p1 : Int64) (p3 : Int64) : Option (Int64 × St) :=
  (f_M_rank F s p0).bind fun x1 => (if x1.1 = 1 then
    ((f_M_areSo F x1.2 p1 p0 p3).bind fun x2 => (if x2.1 = 0 then
      (some (0, x2.2))
    else
      (some (1, x2.2))))
  else
    (if p0 = 47 then
      (if p3 = 0 then
        (some (0, x1.2))
      else
        (if p3 = 0 then none else (some ((p1 / p3), x1.2))))
    else
      (if p0 = 43 then
        (some ((p1 + p3), x1.2))
      else
        (if p0 = 45 then
          (some ((p1 - p3), x1.2))
        else
          (some ((p1 * p3), x1.2))))))
set_option maxHeartbeats 1000000 in
theorem c_f_M_reckoned {F : Nat} {s : St} {p0 : Int32} {p1 : Int64} {p3 : Int64} {r : Int64} {s' : St} (hf : f_M_reckoned F s p0 p1 p3 = some (r, s')) : CC true yX11_reckoned (Cond.code yX11_reckoned cX11_reckoned 5 (some .long)) 1 24 (fun B => [.int p0, .long p1, .long p3]) s (fun B => (some (.long r))) s' 0 0 := by
  refine CC.of (fun B => [(0, .int p0), (1, .long p1), (3, .long p3)]) (by decide +kernel) (fun _ => rfl) (fun _ => (by simp [lg_sl, rfB_cat, catI, catL, catR])) (fun Γ D B X hr hin => ?_)
  have X : Cx Γ RX11 cX11_reckoned 5 D B { frames := 1, cells := 0, slots := 0, locals := 24 } := X
  unfold f_M_reckoned at hf
  refine r_iload_n (pc := 0) X dX11_reckoned_0 0 rfl ?_
  refine bnd hf (fun x1 h1 hf => ?_)
  refine r_callSi (As := [.int p0]) (st := []) (pc := 1) X (c_f_M_rank h1) rfl w_1318 w_1319 w_84 w_1320 hdS_X11_rank (by decide) (by decide) (by decide) (Nat.le_of_ble_eq_true rfl) dX11_reckoned_1 rfl ?_
  refine r_iconst (v := 1) (pc := 4) X dX11_reckoned_4 (by decide) ?_
  refine b_icmp_ne (tgt := 23) (pc := 5) X dX11_reckoned_5 (by decide) hf (fun hf => ?_) (fun hf => ?_)
  · refine r_lload_n (pc := 8) X dX11_reckoned_8 1 rfl ?_
    refine r_iload_n (pc := 9) X dX11_reckoned_9 0 rfl ?_
    refine r_lload_n (pc := 10) X dX11_reckoned_10 2 rfl ?_
    refine bnd hf (fun x2 h2 hf => ?_)
    refine r_callSi (As := [.long p1, .int p0, .long p3]) (st := []) (pc := 11) X (c_f_M_areSo h2) rfl w_1383 w_1384 w_84 w_1385 hdS_X11_areSo (by decide) (by decide) (by decide) (Nat.le_of_ble_eq_true rfl) dX11_reckoned_11 rfl ?_
    refine b_if_eq (tgt := 21) (pc := 14) X dX11_reckoned_14 (by decide) hf (fun hf => ?_) (fun hf => ?_)
    · refine r_lconst (v := 0) (pc := 21) X dX11_reckoned_21 (by decide) ?_
      exact e_lret (pc := 22) X hr hf (Nat.le_refl _) (Nat.le_refl _) dX11_reckoned_22
    · refine r_lconst (v := 1) (pc := 17) X dX11_reckoned_17 (by decide) ?_
      refine r_goto (tgt := 22) (pc := 18) X dX11_reckoned_18 (by decide) ?_
      exact e_lret (pc := 22) X hr hf (Nat.le_refl _) (Nat.le_refl _) dX11_reckoned_22
  · refine r_iload_n (pc := 23) X dX11_reckoned_23 0 rfl ?_
    refine r_bipush (v := 47) (pc := 24) X dX11_reckoned_24 (by decide) ?_
    refine b_icmp_ne (tgt := 43) (pc := 26) X dX11_reckoned_26 (by decide) hf (fun hf => ?_) (fun hf => ?_)
    · refine r_lload_n (pc := 29) X dX11_reckoned_29 2 rfl ?_
      refine r_lconst (v := 0) (pc := 30) X dX11_reckoned_30 (by decide) ?_
      refine b_lcmp_ne (tgt := 39) (pc := 31) X dX11_reckoned_31 dX11_reckoned_32 (by decide) hf (fun hf => ?_) (fun hf => ?_)
      · refine r_lconst (v := 0) (pc := 35) X dX11_reckoned_35 (by decide) ?_
        refine r_goto (tgt := 42) (pc := 36) X dX11_reckoned_36 (by decide) ?_
        exact e_lret (pc := 42) X hr hf (Nat.le_refl _) (Nat.le_refl _) dX11_reckoned_42
      · refine r_lload_n (pc := 39) X dX11_reckoned_39 1 rfl ?_
        refine r_lload_n (pc := 40) X dX11_reckoned_40 2 rfl ?_
        refine ifz hf (fun hne hf => ?_)
        refine r_ldiv (pc := 41) X dX11_reckoned_41 hne ?_
        exact e_lret (pc := 42) X hr hf (Nat.le_refl _) (Nat.le_refl _) dX11_reckoned_42
    · refine r_iload_n (pc := 43) X dX11_reckoned_43 0 rfl ?_
      refine r_bipush (v := 43) (pc := 44) X dX11_reckoned_44 (by decide) ?_
      refine b_icmp_ne (tgt := 55) (pc := 46) X dX11_reckoned_46 (by decide) hf (fun hf => ?_) (fun hf => ?_)
      · refine r_lload_n (pc := 49) X dX11_reckoned_49 1 rfl ?_
        refine r_lload_n (pc := 50) X dX11_reckoned_50 2 rfl ?_
        refine r_ladd (pc := 51) X dX11_reckoned_51 ?_
        refine r_goto (tgt := 70) (pc := 52) X dX11_reckoned_52 (by decide) ?_
        exact e_lret (pc := 70) X hr hf (Nat.le_refl _) (Nat.le_refl _) dX11_reckoned_70
      · refine r_iload_n (pc := 55) X dX11_reckoned_55 0 rfl ?_
        refine r_bipush (v := 45) (pc := 56) X dX11_reckoned_56 (by decide) ?_
        refine b_icmp_ne (tgt := 67) (pc := 58) X dX11_reckoned_58 (by decide) hf (fun hf => ?_) (fun hf => ?_)
        · refine r_lload_n (pc := 61) X dX11_reckoned_61 1 rfl ?_
          refine r_lload_n (pc := 62) X dX11_reckoned_62 2 rfl ?_
          refine r_lsub (pc := 63) X dX11_reckoned_63 ?_
          refine r_goto (tgt := 70) (pc := 64) X dX11_reckoned_64 (by decide) ?_
          exact e_lret (pc := 70) X hr hf (Nat.le_refl _) (Nat.le_refl _) dX11_reckoned_70
        · refine r_lload_n (pc := 67) X dX11_reckoned_67 1 rfl ?_
          refine r_lload_n (pc := 68) X dX11_reckoned_68 2 rfl ?_
          refine r_lmul (pc := 69) X dX11_reckoned_69 ?_
          exact e_lret (pc := 70) X hr hf (Nat.le_refl _) (Nat.le_refl _) dX11_reckoned_70
/-! f_M_runs -/
theorem dX11_runs_0 : decode cX11_runs 0 = .ok (.aload_n 0, 1) := by decide +kernel
theorem dX11_runs_1 : decode cX11_runs 1 = .ok (.iload_n 2, 1) := by decide +kernel
theorem dX11_runs_2 : decode cX11_runs 2 = .ok (.putfield 232, 3) := by decide +kernel
theorem dX11_runs_5 : decode cX11_runs 5 = .ok (.aload_n 0, 1) := by decide +kernel
theorem dX11_runs_6 : decode cX11_runs 6 = .ok (.iload_n 3, 1) := by decide +kernel
theorem dX11_runs_7 : decode cX11_runs 7 = .ok (.putfield 235, 3) := by decide +kernel
theorem dX11_runs_10 : decode cX11_runs 10 = .ok (.aload_n 0, 1) := by decide +kernel
theorem dX11_runs_11 : decode cX11_runs 11 = .ok (.iconst 0, 1) := by decide +kernel
theorem dX11_runs_12 : decode cX11_runs 12 = .ok (.putfield 252, 3) := by decide +kernel
theorem dX11_runs_15 : decode cX11_runs 15 = .ok (.bipush 64, 2) := by decide +kernel
theorem dX11_runs_17 : decode cX11_runs 17 = .ok (.iload_n 1, 1) := by decide +kernel
theorem dX11_runs_18 : decode cX11_runs 18 = .ok (.imul, 1) := by decide +kernel
theorem dX11_runs_19 : decode cX11_runs 19 = .ok (.istore 4, 2) := by decide +kernel
theorem dX11_runs_21 : decode cX11_runs 21 = .ok (.iload 4, 2) := by decide +kernel
theorem dX11_runs_23 : decode cX11_runs 23 = .ok (.bipush 64, 2) := by decide +kernel
theorem dX11_runs_25 : decode cX11_runs 25 = .ok (.iload_n 1, 1) := by decide +kernel
theorem dX11_runs_26 : decode cX11_runs 26 = .ok (.imul, 1) := by decide +kernel
theorem dX11_runs_27 : decode cX11_runs 27 = .ok (.aload_n 0, 1) := by decide +kernel
theorem dX11_runs_28 : decode cX11_runs 28 = .ok (.getfield 19, 3) := by decide +kernel
theorem dX11_runs_31 : decode cX11_runs 31 = .ok (.iload_n 1, 1) := by decide +kernel
theorem dX11_runs_32 : decode cX11_runs 32 = .ok (.iaload, 1) := by decide +kernel
theorem dX11_runs_33 : decode cX11_runs 33 = .ok (.iadd, 1) := by decide +kernel
theorem dX11_runs_34 : decode cX11_runs 34 = .ok (.if_icmp .ge 159, 3) := by decide +kernel
theorem dX11_runs_37 : decode cX11_runs 37 = .ok (.aload_n 0, 1) := by decide +kernel
theorem dX11_runs_38 : decode cX11_runs 38 = .ok (.getfield 13, 3) := by decide +kernel
theorem dX11_runs_41 : decode cX11_runs 41 = .ok (.iload 4, 2) := by decide +kernel
theorem dX11_runs_43 : decode cX11_runs 43 = .ok (.iaload, 1) := by decide +kernel
theorem dX11_runs_44 : decode cX11_runs 44 = .ok (.istore 5, 2) := by decide +kernel
theorem dX11_runs_46 : decode cX11_runs 46 = .ok (.iload 5, 2) := by decide +kernel
theorem dX11_runs_48 : decode cX11_runs 48 = .ok (.iconst 1, 1) := by decide +kernel
theorem dX11_runs_49 : decode cX11_runs 49 = .ok (.if_icmp .eq 9, 3) := by decide +kernel
theorem dX11_runs_52 : decode cX11_runs 52 = .ok (.iload 5, 2) := by decide +kernel
theorem dX11_runs_54 : decode cX11_runs 54 = .ok (.iconst 3, 1) := by decide +kernel
theorem dX11_runs_55 : decode cX11_runs 55 = .ok (.if_icmp .ne 54, 3) := by decide +kernel
theorem dX11_runs_58 : decode cX11_runs 58 = .ok (.aload_n 0, 1) := by decide +kernel
theorem dX11_runs_59 : decode cX11_runs 59 = .ok (.getfield 41, 3) := by decide +kernel
theorem dX11_runs_62 : decode cX11_runs 62 = .ok (.aload_n 0, 1) := by decide +kernel
theorem dX11_runs_63 : decode cX11_runs 63 = .ok (.getfield 252, 3) := by decide +kernel
theorem dX11_runs_66 : decode cX11_runs 66 = .ok (.iload 5, 2) := by decide +kernel
theorem dX11_runs_68 : decode cX11_runs 68 = .ok (.iconst 1, 1) := by decide +kernel
theorem dX11_runs_69 : decode cX11_runs 69 = .ok (.if_icmp .ne 14, 3) := by decide +kernel
theorem dX11_runs_72 : decode cX11_runs 72 = .ok (.aload_n 0, 1) := by decide +kernel
theorem dX11_runs_73 : decode cX11_runs 73 = .ok (.getfield 16, 3) := by decide +kernel
theorem dX11_runs_76 : decode cX11_runs 76 = .ok (.iload 4, 2) := by decide +kernel
theorem dX11_runs_78 : decode cX11_runs 78 = .ok (.iaload, 1) := by decide +kernel
theorem dX11_runs_79 : decode cX11_runs 79 = .ok (.i2l, 1) := by decide +kernel
theorem dX11_runs_80 : decode cX11_runs 80 = .ok (.goto 15, 3) := by decide +kernel
theorem dX11_runs_83 : decode cX11_runs 83 = .ok (.aload_n 0, 1) := by decide +kernel
theorem dX11_runs_84 : decode cX11_runs 84 = .ok (.iload_n 1, 1) := by decide +kernel
theorem dX11_runs_85 : decode cX11_runs 85 = .ok (.aload_n 0, 1) := by decide +kernel
theorem dX11_runs_86 : decode cX11_runs 86 = .ok (.getfield 16, 3) := by decide +kernel
theorem dX11_runs_89 : decode cX11_runs 89 = .ok (.iload 4, 2) := by decide +kernel
theorem dX11_runs_91 : decode cX11_runs 91 = .ok (.iaload, 1) := by decide +kernel
theorem dX11_runs_92 : decode cX11_runs 92 = .ok (.invokevirtual 255, 3) := by decide +kernel
theorem dX11_runs_95 : decode cX11_runs 95 = .ok (.lastore, 1) := by decide +kernel
theorem dX11_runs_96 : decode cX11_runs 96 = .ok (.aload_n 0, 1) := by decide +kernel
theorem dX11_runs_97 : decode cX11_runs 97 = .ok (.dup, 1) := by decide +kernel
theorem dX11_runs_98 : decode cX11_runs 98 = .ok (.getfield 252, 3) := by decide +kernel
theorem dX11_runs_101 : decode cX11_runs 101 = .ok (.iconst 1, 1) := by decide +kernel
theorem dX11_runs_102 : decode cX11_runs 102 = .ok (.iadd, 1) := by decide +kernel
theorem dX11_runs_103 : decode cX11_runs 103 = .ok (.putfield 252, 3) := by decide +kernel
theorem dX11_runs_106 : decode cX11_runs 106 = .ok (.goto 81, 3) := by decide +kernel
theorem dX11_runs_109 : decode cX11_runs 109 = .ok (.iload 5, 2) := by decide +kernel
theorem dX11_runs_111 : decode cX11_runs 111 = .ok (.iconst 2, 1) := by decide +kernel
theorem dX11_runs_112 : decode cX11_runs 112 = .ok (.if_icmp .ne 29, 3) := by decide +kernel
theorem dX11_runs_115 : decode cX11_runs 115 = .ok (.aload_n 0, 1) := by decide +kernel
theorem dX11_runs_116 : decode cX11_runs 116 = .ok (.getfield 41, 3) := by decide +kernel
theorem dX11_runs_119 : decode cX11_runs 119 = .ok (.aload_n 0, 1) := by decide +kernel
theorem dX11_runs_120 : decode cX11_runs 120 = .ok (.getfield 252, 3) := by decide +kernel
theorem dX11_runs_123 : decode cX11_runs 123 = .ok (.iconst 1, 1) := by decide +kernel
theorem dX11_runs_124 : decode cX11_runs 124 = .ok (.isub, 1) := by decide +kernel
theorem dX11_runs_125 : decode cX11_runs 125 = .ok (.aload_n 0, 1) := by decide +kernel
theorem dX11_runs_126 : decode cX11_runs 126 = .ok (.getfield 41, 3) := by decide +kernel
theorem dX11_runs_129 : decode cX11_runs 129 = .ok (.aload_n 0, 1) := by decide +kernel
theorem dX11_runs_130 : decode cX11_runs 130 = .ok (.getfield 252, 3) := by decide +kernel
theorem dX11_runs_133 : decode cX11_runs 133 = .ok (.iconst 1, 1) := by decide +kernel
theorem dX11_runs_134 : decode cX11_runs 134 = .ok (.isub, 1) := by decide +kernel
theorem dX11_runs_135 : decode cX11_runs 135 = .ok (.laload, 1) := by decide +kernel
theorem dX11_runs_136 : decode cX11_runs 136 = .ok (.lneg, 1) := by decide +kernel
theorem dX11_runs_137 : decode cX11_runs 137 = .ok (.lastore, 1) := by decide +kernel
theorem dX11_runs_138 : decode cX11_runs 138 = .ok (.goto 49, 3) := by decide +kernel
theorem dX11_runs_141 : decode cX11_runs 141 = .ok (.aload_n 0, 1) := by decide +kernel
theorem dX11_runs_142 : decode cX11_runs 142 = .ok (.dup, 1) := by decide +kernel
theorem dX11_runs_143 : decode cX11_runs 143 = .ok (.getfield 252, 3) := by decide +kernel
theorem dX11_runs_146 : decode cX11_runs 146 = .ok (.iconst 1, 1) := by decide +kernel
theorem dX11_runs_147 : decode cX11_runs 147 = .ok (.isub, 1) := by decide +kernel
theorem dX11_runs_148 : decode cX11_runs 148 = .ok (.putfield 252, 3) := by decide +kernel
theorem dX11_runs_151 : decode cX11_runs 151 = .ok (.aload_n 0, 1) := by decide +kernel
theorem dX11_runs_152 : decode cX11_runs 152 = .ok (.getfield 41, 3) := by decide +kernel
theorem dX11_runs_155 : decode cX11_runs 155 = .ok (.aload_n 0, 1) := by decide +kernel
theorem dX11_runs_156 : decode cX11_runs 156 = .ok (.getfield 252, 3) := by decide +kernel
theorem dX11_runs_159 : decode cX11_runs 159 = .ok (.iconst 1, 1) := by decide +kernel
theorem dX11_runs_160 : decode cX11_runs 160 = .ok (.isub, 1) := by decide +kernel
theorem dX11_runs_161 : decode cX11_runs 161 = .ok (.iload 5, 2) := by decide +kernel
theorem dX11_runs_163 : decode cX11_runs 163 = .ok (.aload_n 0, 1) := by decide +kernel
theorem dX11_runs_164 : decode cX11_runs 164 = .ok (.getfield 41, 3) := by decide +kernel
theorem dX11_runs_167 : decode cX11_runs 167 = .ok (.aload_n 0, 1) := by decide +kernel
theorem dX11_runs_168 : decode cX11_runs 168 = .ok (.getfield 252, 3) := by decide +kernel
theorem dX11_runs_171 : decode cX11_runs 171 = .ok (.iconst 1, 1) := by decide +kernel
theorem dX11_runs_172 : decode cX11_runs 172 = .ok (.isub, 1) := by decide +kernel
theorem dX11_runs_173 : decode cX11_runs 173 = .ok (.laload, 1) := by decide +kernel
theorem dX11_runs_174 : decode cX11_runs 174 = .ok (.aload_n 0, 1) := by decide +kernel
theorem dX11_runs_175 : decode cX11_runs 175 = .ok (.getfield 41, 3) := by decide +kernel
theorem dX11_runs_178 : decode cX11_runs 178 = .ok (.aload_n 0, 1) := by decide +kernel
theorem dX11_runs_179 : decode cX11_runs 179 = .ok (.getfield 252, 3) := by decide +kernel
theorem dX11_runs_182 : decode cX11_runs 182 = .ok (.laload, 1) := by decide +kernel
theorem dX11_runs_183 : decode cX11_runs 183 = .ok (.invokestatic 259, 3) := by decide +kernel
theorem dX11_runs_186 : decode cX11_runs 186 = .ok (.lastore, 1) := by decide +kernel
theorem dX11_runs_187 : decode cX11_runs 187 = .ok (.iinc 4 1, 3) := by decide +kernel
theorem dX11_runs_190 : decode cX11_runs 190 = .ok (.goto (-169), 3) := by decide +kernel
theorem dX11_runs_193 : decode cX11_runs 193 = .ok (.aload_n 0, 1) := by decide +kernel
theorem dX11_runs_194 : decode cX11_runs 194 = .ok (.getfield 41, 3) := by decide +kernel
theorem dX11_runs_197 : decode cX11_runs 197 = .ok (.iconst 0, 1) := by decide +kernel
theorem dX11_runs_198 : decode cX11_runs 198 = .ok (.laload, 1) := by decide +kernel
theorem dX11_runs_199 : decode cX11_runs 199 = .ok (.lreturn, 1) := by decide +kernel
def f_M_runs_b58 (F : Nat) (K21 : St → Int32 → Int32 → Option (Int64 × St)) (s : St) (l1 : Int32) (l4 : Int32) (l5 : Int32) : Option (Int64 × St) :=
  if l5 = 1 then
    ((ix 320 l4).bind fun j7 => ((ix 64 (gI s 2522)).bind fun j8 => (lt (sJ s 50 j8 ((gA s 42 j7).toInt64)) fun s9 => (lt (sI s9 2522 ((gI s9 2522) + 1)) fun s10 => (K21 s10 l1 (l4 + 1))))))
  else
    ((ix 320 l4).bind fun j11 => ((f_M_aggregate F s l1 (gA s 42 j11)).bind fun x12 => ((ix 64 (gI s 2522)).bind fun j13 => (lt (sJ x12.2 50 j13 x12.1) fun s14 => (lt (sI s14 2522 ((gI s14 2522) + 1)) fun s15 => (K21 s15 l1 (l4 + 1)))))))
def f_M_runs_b21 (F : Nat) : Nat → St → Int32 → Int32 → Option (Int64 × St)
  | 0, _, _, _ => none
  | n + 1, s, l1, l4 =>
    (ix 5 l1).bind fun j4 => (if (((64 : Int32) * l1) + (gA s 43 j4)) ≤ l4 then
      ((ix 64 0).bind fun j5 => (some ((gJ s 50 j5), s)))
    else
      ((ix 320 l4).bind fun j6 => (if (gA s 41 j6) = 1 then
        (f_M_runs_b58 F (f_M_runs_b21 F n) s l1 l4 (gA s 41 j6))
      else
        (if (gA s 41 j6) = 3 then
          (f_M_runs_b58 F (f_M_runs_b21 F n) s l1 l4 (gA s 41 j6))
        else
          (if (gA s 41 j6) = 2 then
            ((ix 64 ((gI s 2522) - 1)).bind fun j16 => ((ix 64 ((gI s 2522) - 1)).bind fun j17 => (lt (sJ s 50 j17 (-(gJ s 50 j16))) fun s18 => (f_M_runs_b21 F n s18 l1 (l4 + 1)))))
          else
            (lt (sI s 2522 ((gI s 2522) - 1)) fun s19 => ((ix 64 ((gI s19 2522) - 1)).bind fun j20 => ((ix 64 (gI s19 2522)).bind fun j21 => ((f_M_reckoned F s19 (gA s 41 j6) (gJ s19 50 j20) (gJ s19 50 j21)).bind fun x22 => ((ix 64 ((gI s19 2522) - 1)).bind fun j23 => (lt (sJ x22.2 50 j23 x22.1) fun s24 => (f_M_runs_b21 F n s24 l1 (l4 + 1)))))))))))))
def f_M_runs (F : Nat) (s : St) (p1 : Int32) (p2 : Int32) (p3 : Int32) : Option (Int64 × St) :=
  lt (sI s 2524 p2) fun s1 => (lt (sI s1 2525 p3) fun s2 => (lt (sI s2 2522 0) fun s3 => (f_M_runs_b21 F F s3 p1 ((64 : Int32) * p1))))
set_option maxHeartbeats 1000000 in
theorem c_f_M_runs_b58 {F : Nat} {Γ : Ga} {D : DD} {B : Nat} {r : Int64} {s' : St} (X : Cx Γ RX11 cX11_runs 6 D B { frames := 5, cells := 0, slots := 0, locals := 134 }) (hr : (Gme Γ).sig.returnType = (some .long)) {K21 : St → Int32 → Int32 → Option (Int64 × St)} (hK21 : ∀ {s : St} {l1 : Int32} {l4 : Int32}, K21 s l1 l4 = some (r, s') → V Γ D B true 6 (QM Γ D B true s' (some (.long r)) 0 0) 0 0 s 21 [(0, .ref (B + 39)), (1, .int l1), (4, .int l4)] []) {s : St} {l1 : Int32} {l4 : Int32} {l5 : Int32} (hf : f_M_runs_b58 F K21 s l1 l4 l5 = some (r, s')) : V Γ D B true 6 (QM Γ D B true s' (some (.long r)) 0 0) 0 0 s 58 [(0, .ref (B + 39)), (1, .int l1), (4, .int l4), (5, .int l5)] [] := by
  unfold f_M_runs_b58 at hf
  refine r_aload_n (x := some 39) (pc := 58) X dX11_runs_58 0 rfl ?_
  refine r_get (j := 25) (pc := 59) X ce_39 rfl inT11 (by decide) w_1105 rfl dX11_runs_59 ?_
  refine r_aload_n (x := some 39) (pc := 62) X dX11_runs_62 0 rfl ?_
  refine r_get (j := 26) (pc := 63) X ce_39 rfl inT11 (by decide) w_1106 rfl dX11_runs_63 ?_
  refine r_iload (pc := 66) X dX11_runs_66 3 rfl ?_
  refine r_iconst (v := 1) (pc := 68) X dX11_runs_68 (by decide) ?_
  refine b_icmp_ne (tgt := 83) (pc := 69) X dX11_runs_69 (by decide) hf (fun hf => ?_) (fun hf => ?_)
  · refine r_aload_n (x := some 39) (pc := 72) X dX11_runs_72 0 rfl ?_
    refine r_get (j := 3) (pc := 73) X ce_39 rfl inT11 (by decide) w_1083 rfl dX11_runs_73 ?_
    refine r_iload (pc := 76) X dX11_runs_76 2 rfl ?_
    refine b_iald (pc := 78) X ce_42 dX11_runs_78 hf (fun j7 hf => ?_)
    refine r_i2l (pc := 79) X dX11_runs_79 ?_
    refine r_goto (tgt := 95) (pc := 80) X dX11_runs_80 (by decide) ?_
    refine b_last (pc := 95) X ce_50 (fun _ => ca_50 _ _) dX11_runs_95 hf (fun j8 s9 hf => ?_)
    refine r_aload_n (x := some 39) (pc := 96) X dX11_runs_96 0 rfl ?_
    refine r_dup (pc := 97) X dX11_runs_97 rfl ?_
    refine r_get (j := 26) (pc := 98) X ce_39 rfl inT11 (by decide) w_1106 rfl dX11_runs_98 ?_
    refine r_iconst (v := 1) (pc := 101) X dX11_runs_101 (by decide) ?_
    refine r_iadd (pc := 102) X dX11_runs_102 ?_
    refine b_put (j := 26) (pc := 103) X ce_39 rfl inT11 tyX11 tyX11_ok nmX11 (by decide) w_1106 rfl (tyX11_ok 26 (by decide)) rfl rfl (Nat.le_of_ble_eq_true rfl) (cp_2522 _) rfl rfl dX11_runs_103 hf (fun s10 hf => ?_)
    refine r_goto (tgt := 187) (pc := 106) X dX11_runs_106 (by decide) ?_
    refine r_iinc (v := l4 + 1) (lv' := [(0, .ref (B + 39)), (1, .int l1), (4, .int (l4 + 1))]) (pc := 187) X dX11_runs_187 2 rfl rfl (by decide) [1, 2, 0] rfl ?_
    refine r_goto (tgt := 21) (pc := 190) X dX11_runs_190 (by decide) ?_
    exact hK21 hf
  · refine r_aload_n (x := some 39) (pc := 83) X dX11_runs_83 0 rfl ?_
    refine r_iload_n (pc := 84) X dX11_runs_84 1 rfl ?_
    refine r_aload_n (x := some 39) (pc := 85) X dX11_runs_85 0 rfl ?_
    refine r_get (j := 3) (pc := 86) X ce_39 rfl inT11 (by decide) w_1083 rfl dX11_runs_86 ?_
    refine r_iload (pc := 89) X dX11_runs_89 2 rfl ?_
    refine b_iald (pc := 91) X ce_42 dX11_runs_91 hf (fun j11 hf => ?_)
    refine bnd hf (fun x12 h12 hf => ?_)
    refine r_callVl (As := [.int l1, .int (gA s 42 j11)]) (st := [.int (gI s 2522), .ref (B + 50)]) (pc := 92) X (c_f_M_aggregate h12) rfl w_1367 w_1369 w_55 w_84 w_1370 hdV_X11_aggregate (Rc.s rfl ce_39) (by decide) (by decide) (by decide) (Nat.le_of_ble_eq_true rfl) dX11_runs_92 rfl ?_
    refine b_last (pc := 95) X ce_50 (fun _ => ca_50 _ _) dX11_runs_95 hf (fun j13 s14 hf => ?_)
    refine r_aload_n (x := some 39) (pc := 96) X dX11_runs_96 0 rfl ?_
    refine r_dup (pc := 97) X dX11_runs_97 rfl ?_
    refine r_get (j := 26) (pc := 98) X ce_39 rfl inT11 (by decide) w_1106 rfl dX11_runs_98 ?_
    refine r_iconst (v := 1) (pc := 101) X dX11_runs_101 (by decide) ?_
    refine r_iadd (pc := 102) X dX11_runs_102 ?_
    refine b_put (j := 26) (pc := 103) X ce_39 rfl inT11 tyX11 tyX11_ok nmX11 (by decide) w_1106 rfl (tyX11_ok 26 (by decide)) rfl rfl (Nat.le_of_ble_eq_true rfl) (cp_2522 _) rfl rfl dX11_runs_103 hf (fun s15 hf => ?_)
    refine r_goto (tgt := 187) (pc := 106) X dX11_runs_106 (by decide) ?_
    refine r_iinc (v := l4 + 1) (lv' := [(0, .ref (B + 39)), (1, .int l1), (4, .int (l4 + 1))]) (pc := 187) X dX11_runs_187 2 rfl rfl (by decide) [1, 2, 0] rfl ?_
    refine r_goto (tgt := 21) (pc := 190) X dX11_runs_190 (by decide) ?_
    exact hK21 hf
set_option maxHeartbeats 1000000 in
theorem c_f_M_runs_b21 {F : Nat} {Γ : Ga} {D : DD} {B : Nat} {r : Int64} {s' : St} (X : Cx Γ RX11 cX11_runs 6 D B { frames := 5, cells := 0, slots := 0, locals := 134 }) (hr : (Gme Γ).sig.returnType = (some .long)) : ∀ (n : Nat) {s : St} {l1 : Int32} {l4 : Int32}, f_M_runs_b21 F n s l1 l4 = some (r, s') → V Γ D B true 6 (QM Γ D B true s' (some (.long r)) 0 0) 0 0 s 21 [(0, .ref (B + 39)), (1, .int l1), (4, .int l4)] [] := by
  intro n
  induction n with
  | zero => intro s l1 l4 hf; rw [f_M_runs_b21] at hf; cases hf
  | succ n ih =>
    intro s l1 l4 hf
    rw [f_M_runs_b21] at hf
    refine r_iload (pc := 21) X dX11_runs_21 2 rfl ?_
    refine r_bipush (v := 64) (pc := 23) X dX11_runs_23 (by decide) ?_
    refine r_iload_n (pc := 25) X dX11_runs_25 1 rfl ?_
    refine r_imul (pc := 26) X dX11_runs_26 ?_
    refine r_aload_n (x := some 39) (pc := 27) X dX11_runs_27 0 rfl ?_
    refine r_get (j := 4) (pc := 28) X ce_39 rfl inT11 (by decide) w_1084 rfl dX11_runs_28 ?_
    refine r_iload_n (pc := 31) X dX11_runs_31 1 rfl ?_
    refine b_iald (pc := 32) X ce_43 dX11_runs_32 hf (fun j4 hf => ?_)
    refine r_iadd (pc := 33) X dX11_runs_33 ?_
    refine b_icmp_ge (tgt := 193) (pc := 34) X dX11_runs_34 (by decide) hf (fun hf => ?_) (fun hf => ?_)
    · refine r_aload_n (x := some 39) (pc := 193) X dX11_runs_193 0 rfl ?_
      refine r_get (j := 25) (pc := 194) X ce_39 rfl inT11 (by decide) w_1105 rfl dX11_runs_194 ?_
      refine r_iconst (v := 0) (pc := 197) X dX11_runs_197 (by decide) ?_
      refine b_lald (pc := 198) X ce_50 dX11_runs_198 hf (fun j5 hf => ?_)
      exact e_lret (pc := 199) X hr hf (Nat.le_refl _) (Nat.le_refl _) dX11_runs_199
    · refine r_aload_n (x := some 39) (pc := 37) X dX11_runs_37 0 rfl ?_
      refine r_get (j := 2) (pc := 38) X ce_39 rfl inT11 (by decide) w_1082 rfl dX11_runs_38 ?_
      refine r_iload (pc := 41) X dX11_runs_41 2 rfl ?_
      refine b_iald (pc := 43) X ce_41 dX11_runs_43 hf (fun j6 hf => ?_)
      refine r_istore (pc := 44) (lv' := [(0, .ref (B + 39)), (1, .int l1), (4, .int l4), (5, .int (gA s 41 j6))]) X dX11_runs_44 (by decide) [1, 2, 3, 0] rfl ?_
      refine r_iload (pc := 46) X dX11_runs_46 3 rfl ?_
      refine r_iconst (v := 1) (pc := 48) X dX11_runs_48 (by decide) ?_
      refine b_icmp_eq (tgt := 58) (pc := 49) X dX11_runs_49 (by decide) hf (fun hf => ?_) (fun hf => ?_)
      · exact c_f_M_runs_b58 X hr (fun hf => ih hf) hf
      · refine r_iload (pc := 52) X dX11_runs_52 3 rfl ?_
        refine r_iconst (v := 3) (pc := 54) X dX11_runs_54 (by decide) ?_
        refine b_icmp_ne (tgt := 109) (pc := 55) X dX11_runs_55 (by decide) hf (fun hf => ?_) (fun hf => ?_)
        · exact c_f_M_runs_b58 X hr (fun hf => ih hf) hf
        · refine r_iload (pc := 109) X dX11_runs_109 3 rfl ?_
          refine r_iconst (v := 2) (pc := 111) X dX11_runs_111 (by decide) ?_
          refine b_icmp_ne (tgt := 141) (pc := 112) X dX11_runs_112 (by decide) hf (fun hf => ?_) (fun hf => ?_)
          · refine r_aload_n (x := some 39) (pc := 115) X dX11_runs_115 0 rfl ?_
            refine r_get (j := 25) (pc := 116) X ce_39 rfl inT11 (by decide) w_1105 rfl dX11_runs_116 ?_
            refine r_aload_n (x := some 39) (pc := 119) X dX11_runs_119 0 rfl ?_
            refine r_get (j := 26) (pc := 120) X ce_39 rfl inT11 (by decide) w_1106 rfl dX11_runs_120 ?_
            refine r_iconst (v := 1) (pc := 123) X dX11_runs_123 (by decide) ?_
            refine r_isub (pc := 124) X dX11_runs_124 ?_
            refine r_aload_n (x := some 39) (pc := 125) X dX11_runs_125 0 rfl ?_
            refine r_get (j := 25) (pc := 126) X ce_39 rfl inT11 (by decide) w_1105 rfl dX11_runs_126 ?_
            refine r_aload_n (x := some 39) (pc := 129) X dX11_runs_129 0 rfl ?_
            refine r_get (j := 26) (pc := 130) X ce_39 rfl inT11 (by decide) w_1106 rfl dX11_runs_130 ?_
            refine r_iconst (v := 1) (pc := 133) X dX11_runs_133 (by decide) ?_
            refine r_isub (pc := 134) X dX11_runs_134 ?_
            refine b_lald (pc := 135) X ce_50 dX11_runs_135 hf (fun j16 hf => ?_)
            refine r_lneg (pc := 136) X dX11_runs_136 ?_
            refine b_last (pc := 137) X ce_50 (fun _ => ca_50 _ _) dX11_runs_137 hf (fun j17 s18 hf => ?_)
            refine r_goto (tgt := 187) (pc := 138) X dX11_runs_138 (by decide) ?_
            refine r_iinc (v := l4 + 1) (lv' := [(0, .ref (B + 39)), (1, .int l1), (4, .int (l4 + 1))]) (pc := 187) X dX11_runs_187 2 rfl rfl (by decide) [1, 2, 0] rfl ?_
            refine r_goto (tgt := 21) (pc := 190) X dX11_runs_190 (by decide) ?_
            exact ih hf
          · refine r_aload_n (x := some 39) (pc := 141) X dX11_runs_141 0 rfl ?_
            refine r_dup (pc := 142) X dX11_runs_142 rfl ?_
            refine r_get (j := 26) (pc := 143) X ce_39 rfl inT11 (by decide) w_1106 rfl dX11_runs_143 ?_
            refine r_iconst (v := 1) (pc := 146) X dX11_runs_146 (by decide) ?_
            refine r_isub (pc := 147) X dX11_runs_147 ?_
            refine b_put (j := 26) (pc := 148) X ce_39 rfl inT11 tyX11 tyX11_ok nmX11 (by decide) w_1106 rfl (tyX11_ok 26 (by decide)) rfl rfl (Nat.le_of_ble_eq_true rfl) (cp_2522 _) rfl rfl dX11_runs_148 hf (fun s19 hf => ?_)
            refine r_aload_n (x := some 39) (pc := 151) X dX11_runs_151 0 rfl ?_
            refine r_get (j := 25) (pc := 152) X ce_39 rfl inT11 (by decide) w_1105 rfl dX11_runs_152 ?_
            refine r_aload_n (x := some 39) (pc := 155) X dX11_runs_155 0 rfl ?_
            refine r_get (j := 26) (pc := 156) X ce_39 rfl inT11 (by decide) w_1106 rfl dX11_runs_156 ?_
            refine r_iconst (v := 1) (pc := 159) X dX11_runs_159 (by decide) ?_
            refine r_isub (pc := 160) X dX11_runs_160 ?_
            refine r_iload (pc := 161) X dX11_runs_161 3 rfl ?_
            refine r_aload_n (x := some 39) (pc := 163) X dX11_runs_163 0 rfl ?_
            refine r_get (j := 25) (pc := 164) X ce_39 rfl inT11 (by decide) w_1105 rfl dX11_runs_164 ?_
            refine r_aload_n (x := some 39) (pc := 167) X dX11_runs_167 0 rfl ?_
            refine r_get (j := 26) (pc := 168) X ce_39 rfl inT11 (by decide) w_1106 rfl dX11_runs_168 ?_
            refine r_iconst (v := 1) (pc := 171) X dX11_runs_171 (by decide) ?_
            refine r_isub (pc := 172) X dX11_runs_172 ?_
            refine b_lald (pc := 173) X ce_50 dX11_runs_173 hf (fun j20 hf => ?_)
            refine r_aload_n (x := some 39) (pc := 174) X dX11_runs_174 0 rfl ?_
            refine r_get (j := 25) (pc := 175) X ce_39 rfl inT11 (by decide) w_1105 rfl dX11_runs_175 ?_
            refine r_aload_n (x := some 39) (pc := 178) X dX11_runs_178 0 rfl ?_
            refine r_get (j := 26) (pc := 179) X ce_39 rfl inT11 (by decide) w_1106 rfl dX11_runs_179 ?_
            refine b_lald (pc := 182) X ce_50 dX11_runs_182 hf (fun j21 hf => ?_)
            refine bnd hf (fun x22 h22 hf => ?_)
            refine r_callSl (As := [.int (gA s 41 j6), .long (gJ s19 50 j20), .long (gJ s19 50 j21)]) (st := [.int ((gI s19 2522) - 1), .ref (B + 50)]) (pc := 183) X (c_f_M_reckoned h22) rfl w_1390 w_1391 w_84 w_1392 hdS_X11_reckoned (by decide) (by decide) (by decide) (Nat.le_of_ble_eq_true rfl) dX11_runs_183 rfl ?_
            refine b_last (pc := 186) X ce_50 (fun _ => ca_50 _ _) dX11_runs_186 hf (fun j23 s24 hf => ?_)
            refine r_iinc (v := l4 + 1) (lv' := [(0, .ref (B + 39)), (1, .int l1), (4, .int (l4 + 1))]) (pc := 187) X dX11_runs_187 2 rfl rfl (by decide) [1, 2, 0] rfl ?_
            refine r_goto (tgt := 21) (pc := 190) X dX11_runs_190 (by decide) ?_
            exact ih hf
set_option maxHeartbeats 1000000 in
theorem c_f_M_runs {F : Nat} {s : St} {p1 : Int32} {p2 : Int32} {p3 : Int32} {r : Int64} {s' : St} (hf : f_M_runs F s p1 p2 p3 = some (r, s')) : CC true yX11_runs (Cond.code yX11_runs cX11_runs 6 (some .long)) 5 134 (fun B => [.ref (B + 39), .int p1, .int p2, .int p3]) s (fun B => (some (.long r))) s' 0 0 := by
  refine CC.of (fun B => [(0, .ref (B + 39)), (1, .int p1), (2, .int p2), (3, .int p3)]) (by decide +kernel) (fun _ => rfl) (fun _ => (by simp [lg_sl, rfB_cat, catI, catL, catR])) (fun Γ D B X hr hin => ?_)
  have X : Cx Γ RX11 cX11_runs 6 D B { frames := 5, cells := 0, slots := 0, locals := 134 } := X
  unfold f_M_runs at hf
  refine r_aload_n (x := some 39) (pc := 0) X dX11_runs_0 0 rfl ?_
  refine r_iload_n (pc := 1) X dX11_runs_1 2 rfl ?_
  refine b_put (j := 28) (pc := 2) X ce_39 rfl inT11 tyX11 tyX11_ok nmX11 (by decide) w_1108 rfl (tyX11_ok 28 (by decide)) rfl rfl (Nat.le_of_ble_eq_true rfl) (cp_2524 _) rfl rfl dX11_runs_2 hf (fun s1 hf => ?_)
  refine r_aload_n (x := some 39) (pc := 5) X dX11_runs_5 0 rfl ?_
  refine r_iload_n (pc := 6) X dX11_runs_6 3 rfl ?_
  refine b_put (j := 29) (pc := 7) X ce_39 rfl inT11 tyX11 tyX11_ok nmX11 (by decide) w_1109 rfl (tyX11_ok 29 (by decide)) rfl rfl (Nat.le_of_ble_eq_true rfl) (cp_2525 _) rfl rfl dX11_runs_7 hf (fun s2 hf => ?_)
  refine r_aload_n (x := some 39) (pc := 10) X dX11_runs_10 0 rfl ?_
  refine r_iconst (v := 0) (pc := 11) X dX11_runs_11 (by decide) ?_
  refine b_put (j := 26) (pc := 12) X ce_39 rfl inT11 tyX11 tyX11_ok nmX11 (by decide) w_1106 rfl (tyX11_ok 26 (by decide)) rfl rfl (Nat.le_of_ble_eq_true rfl) (cp_2522 _) rfl rfl dX11_runs_12 hf (fun s3 hf => ?_)
  refine r_bipush (v := 64) (pc := 15) X dX11_runs_15 (by decide) ?_
  refine r_iload_n (pc := 17) X dX11_runs_17 1 rfl ?_
  refine r_imul (pc := 18) X dX11_runs_18 ?_
  refine r_istore (pc := 19) (lv' := [(0, .ref (B + 39)), (1, .int p1), (4, .int ((64 : Int32) * p1))]) X dX11_runs_19 (by decide) [1, 2, 0] rfl ?_
  exact c_f_M_runs_b21 X hr _ hf
/-! f_M_type -/
theorem dX11_type_0 : decode cX11_type 0 = .ok (.aload_n 0, 1) := by decide +kernel
theorem dX11_type_1 : decode cX11_type 1 = .ok (.iload_n 1, 1) := by decide +kernel
theorem dX11_type_2 : decode cX11_type 2 = .ok (.bipush 32, 2) := by decide +kernel
theorem dX11_type_4 : decode cX11_type 4 = .ok (.bipush 126, 2) := by decide +kernel
theorem dX11_type_6 : decode cX11_type 6 = .ok (.invokestatic 109, 3) := by decide +kernel
theorem dX11_type_9 : decode cX11_type 9 = .ok (.ifCond .ne 7, 3) := by decide +kernel
theorem dX11_type_12 : decode cX11_type 12 = .ok (.iconst 1, 1) := by decide +kernel
theorem dX11_type_13 : decode cX11_type 13 = .ok (.goto 17, 3) := by decide +kernel
theorem dX11_type_16 : decode cX11_type 16 = .ok (.aload_n 0, 1) := by decide +kernel
theorem dX11_type_17 : decode cX11_type 17 = .ok (.getfield 218, 3) := by decide +kernel
theorem dX11_type_20 : decode cX11_type 20 = .ok (.bipush 40, 2) := by decide +kernel
theorem dX11_type_22 : decode cX11_type 22 = .ok (.if_icmp .ne 7, 3) := by decide +kernel
theorem dX11_type_25 : decode cX11_type 25 = .ok (.iconst 2, 1) := by decide +kernel
theorem dX11_type_26 : decode cX11_type 26 = .ok (.goto 4, 3) := by decide +kernel
theorem dX11_type_29 : decode cX11_type 29 = .ok (.iconst 0, 1) := by decide +kernel
theorem dX11_type_30 : decode cX11_type 30 = .ok (.invokevirtual 263, 3) := by decide +kernel
theorem dX11_type_33 : decode cX11_type 33 = .ok (.ifCond .ne 5, 3) := by decide +kernel
theorem dX11_type_36 : decode cX11_type 36 = .ok (.iconst 0, 1) := by decide +kernel
theorem dX11_type_37 : decode cX11_type 37 = .ok (.ireturn, 1) := by decide +kernel
theorem dX11_type_38 : decode cX11_type 38 = .ok (.aload_n 0, 1) := by decide +kernel
theorem dX11_type_39 : decode cX11_type 39 = .ok (.getfield 7, 3) := by decide +kernel
theorem dX11_type_42 : decode cX11_type 42 = .ok (.aload_n 0, 1) := by decide +kernel
theorem dX11_type_43 : decode cX11_type 43 = .ok (.getfield 218, 3) := by decide +kernel
theorem dX11_type_46 : decode cX11_type 46 = .ok (.iload_n 1, 1) := by decide +kernel
theorem dX11_type_47 : decode cX11_type 47 = .ok (.iastore, 1) := by decide +kernel
theorem dX11_type_48 : decode cX11_type 48 = .ok (.aload_n 0, 1) := by decide +kernel
theorem dX11_type_49 : decode cX11_type 49 = .ok (.dup, 1) := by decide +kernel
theorem dX11_type_50 : decode cX11_type 50 = .ok (.getfield 218, 3) := by decide +kernel
theorem dX11_type_53 : decode cX11_type 53 = .ok (.iconst 1, 1) := by decide +kernel
theorem dX11_type_54 : decode cX11_type 54 = .ok (.iadd, 1) := by decide +kernel
theorem dX11_type_55 : decode cX11_type 55 = .ok (.putfield 218, 3) := by decide +kernel
theorem dX11_type_58 : decode cX11_type 58 = .ok (.aload_n 0, 1) := by decide +kernel
theorem dX11_type_59 : decode cX11_type 59 = .ok (.getfield 218, 3) := by decide +kernel
theorem dX11_type_62 : decode cX11_type 62 = .ok (.ireturn, 1) := by decide +kernel
def f_M_type_b30 (F : Nat) (s : St) (l1 : Int32) (t1 : Int32) : Option (Int32 × St) :=
  (f_M_goes F s t1).bind fun x2 => (if x2.1 = 0 then
    (some (0, x2.2))
  else
    ((ix 40 (gI x2.2 2497)).bind fun j3 => (lt (sA x2.2 40 j3 l1) fun s4 => (lt (sI s4 2497 ((gI s4 2497) + 1)) fun s5 => (some ((gI s5 2497), s5))))))
def f_M_type (F : Nat) (s : St) (p1 : Int32) : Option (Int32 × St) :=
  (f_M_isIn F s p1 32 126).bind fun x1 => (if x1.1 = 0 then
    (f_M_type_b30 F x1.2 p1 1)
  else
    (if (gI x1.2 2497) = 40 then
      (f_M_type_b30 F x1.2 p1 2)
    else
      (f_M_type_b30 F x1.2 p1 0)))
set_option maxHeartbeats 1000000 in
theorem c_f_M_type_b30 {F : Nat} {Γ : Ga} {D : DD} {B : Nat} {r : Int32} {s' : St} (X : Cx Γ RX11 cX11_type 2 D B { frames := 1, cells := 0, slots := 0, locals := 22 }) (hr : (Gme Γ).sig.returnType = (some .int)) {s : St} {l1 : Int32} {t1 : Int32} (hf : f_M_type_b30 F s l1 t1 = some (r, s')) : V Γ D B true 2 (QM Γ D B true s' (some (.int r)) 0 0) 0 0 s 30 [(0, .ref (B + 39)), (1, .int l1)] [.int t1, .ref (B + 39)] := by
  unfold f_M_type_b30 at hf
  refine bnd hf (fun x2 h2 hf => ?_)
  refine r_callVi (As := [.int t1]) (st := []) (pc := 30) X (c_f_M_goes h2) rfl w_1260 w_1262 w_35 w_84 w_1263 hdV_X11_goes (Rc.s rfl ce_39) (by decide) (by decide) (by decide) (Nat.le_of_ble_eq_true rfl) dX11_type_30 rfl ?_
  refine b_if_ne (tgt := 38) (pc := 33) X dX11_type_33 (by decide) hf (fun hf => ?_) (fun hf => ?_)
  · refine r_iconst (v := 0) (pc := 36) X dX11_type_36 (by decide) ?_
    exact e_iret (pc := 37) X hr hf (Nat.le_refl _) (Nat.le_refl _) dX11_type_37
  · refine r_aload_n (x := some 39) (pc := 38) X dX11_type_38 0 rfl ?_
    refine r_get (j := 0) (pc := 39) X ce_39 rfl inT11 (by decide) w_1080 rfl dX11_type_39 ?_
    refine r_aload_n (x := some 39) (pc := 42) X dX11_type_42 0 rfl ?_
    refine r_get (j := 1) (pc := 43) X ce_39 rfl inT11 (by decide) w_1081 rfl dX11_type_43 ?_
    refine r_iload_n (pc := 46) X dX11_type_46 1 rfl ?_
    refine b_iast (pc := 47) X ce_40 (fun _ => ca_40 _ _) dX11_type_47 hf (fun j3 s4 hf => ?_)
    refine r_aload_n (x := some 39) (pc := 48) X dX11_type_48 0 rfl ?_
    refine r_dup (pc := 49) X dX11_type_49 rfl ?_
    refine r_get (j := 1) (pc := 50) X ce_39 rfl inT11 (by decide) w_1081 rfl dX11_type_50 ?_
    refine r_iconst (v := 1) (pc := 53) X dX11_type_53 (by decide) ?_
    refine r_iadd (pc := 54) X dX11_type_54 ?_
    refine b_put (j := 1) (pc := 55) X ce_39 rfl inT11 tyX11 tyX11_ok nmX11 (by decide) w_1081 rfl (tyX11_ok 1 (by decide)) rfl rfl (Nat.le_of_ble_eq_true rfl) (cp_2497 _) rfl rfl dX11_type_55 hf (fun s5 hf => ?_)
    refine r_aload_n (x := some 39) (pc := 58) X dX11_type_58 0 rfl ?_
    refine r_get (j := 1) (pc := 59) X ce_39 rfl inT11 (by decide) w_1081 rfl dX11_type_59 ?_
    exact e_iret (pc := 62) X hr hf (Nat.le_refl _) (Nat.le_refl _) dX11_type_62
set_option maxHeartbeats 1000000 in
theorem c_f_M_type {F : Nat} {s : St} {p1 : Int32} {r : Int32} {s' : St} (hf : f_M_type F s p1 = some (r, s')) : CC true yX11_type (Cond.code yX11_type cX11_type 2 (some .int)) 1 22 (fun B => [.ref (B + 39), .int p1]) s (fun B => (some (.int r))) s' 0 0 := by
  refine CC.of (fun B => [(0, .ref (B + 39)), (1, .int p1)]) (by decide +kernel) (fun _ => rfl) (fun _ => (by simp [lg_sl, rfB_cat, catI, catL, catR])) (fun Γ D B X hr hin => ?_)
  have X : Cx Γ RX11 cX11_type 2 D B { frames := 1, cells := 0, slots := 0, locals := 22 } := X
  unfold f_M_type at hf
  refine r_aload_n (x := some 39) (pc := 0) X dX11_type_0 0 rfl ?_
  refine r_iload_n (pc := 1) X dX11_type_1 1 rfl ?_
  refine r_bipush (v := 32) (pc := 2) X dX11_type_2 (by decide) ?_
  refine r_bipush (v := 126) (pc := 4) X dX11_type_4 (by decide) ?_
  refine bnd hf (fun x1 h1 hf => ?_)
  refine r_callSi (As := [.int p1, .int 32, .int 126]) (st := [.ref (B + 39)]) (pc := 6) X (c_f_M_isIn h1) rfl w_1257 w_1258 w_84 w_1259 hdS_X11_isIn (by decide) (by decide) (by decide) (Nat.le_of_ble_eq_true rfl) dX11_type_6 rfl ?_
  refine b_if_ne (tgt := 16) (pc := 9) X dX11_type_9 (by decide) hf (fun hf => ?_) (fun hf => ?_)
  · refine r_iconst (v := 1) (pc := 12) X dX11_type_12 (by decide) ?_
    refine r_goto (tgt := 30) (pc := 13) X dX11_type_13 (by decide) ?_
    exact c_f_M_type_b30 X hr hf
  · refine r_aload_n (x := some 39) (pc := 16) X dX11_type_16 0 rfl ?_
    refine r_get (j := 1) (pc := 17) X ce_39 rfl inT11 (by decide) w_1081 rfl dX11_type_17 ?_
    refine r_bipush (v := 40) (pc := 20) X dX11_type_20 (by decide) ?_
    refine b_icmp_ne (tgt := 29) (pc := 22) X dX11_type_22 (by decide) hf (fun hf => ?_) (fun hf => ?_)
    · refine r_iconst (v := 2) (pc := 25) X dX11_type_25 (by decide) ?_
      refine r_goto (tgt := 30) (pc := 26) X dX11_type_26 (by decide) ?_
      exact c_f_M_type_b30 X hr hf
    · refine r_iconst (v := 0) (pc := 29) X dX11_type_29 (by decide) ?_
      exact c_f_M_type_b30 X hr hf
/-! f_M_clearText -/
theorem dX11_clearText_0 : decode cX11_clearText 0 = .ok (.aload_n 0, 1) := by decide +kernel
theorem dX11_clearText_1 : decode cX11_clearText 1 = .ok (.iconst 0, 1) := by decide +kernel
theorem dX11_clearText_2 : decode cX11_clearText 2 = .ok (.putfield 102, 3) := by decide +kernel
theorem dX11_clearText_5 : decode cX11_clearText 5 = .ok (.aload_n 0, 1) := by decide +kernel
theorem dX11_clearText_6 : decode cX11_clearText 6 = .ok (.getfield 218, 3) := by decide +kernel
theorem dX11_clearText_9 : decode cX11_clearText 9 = .ok (.istore_n 1, 1) := by decide +kernel
theorem dX11_clearText_10 : decode cX11_clearText 10 = .ok (.aload_n 0, 1) := by decide +kernel
theorem dX11_clearText_11 : decode cX11_clearText 11 = .ok (.iconst 0, 1) := by decide +kernel
theorem dX11_clearText_12 : decode cX11_clearText 12 = .ok (.putfield 218, 3) := by decide +kernel
theorem dX11_clearText_15 : decode cX11_clearText 15 = .ok (.iload_n 1, 1) := by decide +kernel
theorem dX11_clearText_16 : decode cX11_clearText 16 = .ok (.ireturn, 1) := by decide +kernel
def f_M_clearText (F : Nat) (s : St)  : Option (Int32 × St) :=
  lt (sI s 2551 0) fun s1 => (lt (sI s1 2497 0) fun s2 => (some ((gI s1 2497), s2)))
set_option maxHeartbeats 1000000 in
theorem c_f_M_clearText {F : Nat} {s : St}  {r : Int32} {s' : St} (hf : f_M_clearText F s  = some (r, s')) : CC true yX11_clearText (Cond.code yX11_clearText cX11_clearText 2 (some .int)) 0 0 (fun B => [.ref (B + 39)]) s (fun B => (some (.int r))) s' 0 0 := by
  refine CC.of (fun B => [(0, .ref (B + 39))]) (by decide +kernel) (fun _ => rfl) (fun _ => (by simp [lg_sl, rfB_cat, catI, catL, catR])) (fun Γ D B X hr hin => ?_)
  have X : Cx Γ RX11 cX11_clearText 2 D B { frames := 0, cells := 0, slots := 0, locals := 0 } := X
  unfold f_M_clearText at hf
  refine r_aload_n (x := some 39) (pc := 0) X dX11_clearText_0 0 rfl ?_
  refine r_iconst (v := 0) (pc := 1) X dX11_clearText_1 (by decide) ?_
  refine b_put (j := 55) (pc := 2) X ce_39 rfl inT11 tyX11 tyX11_ok nmX11 (by decide) w_1135 rfl (tyX11_ok 55 (by decide)) rfl rfl (Nat.le_of_ble_eq_true rfl) (cp_2551 _) rfl rfl dX11_clearText_2 hf (fun s1 hf => ?_)
  refine r_aload_n (x := some 39) (pc := 5) X dX11_clearText_5 0 rfl ?_
  refine r_get (j := 1) (pc := 6) X ce_39 rfl inT11 (by decide) w_1081 rfl dX11_clearText_6 ?_
  refine r_istore_n (pc := 9) (lv' := [(0, .ref (B + 39)), (1, .int (gI s1 2497))]) X dX11_clearText_9 (by decide) [1, 0] rfl ?_
  refine r_aload_n (x := some 39) (pc := 10) X dX11_clearText_10 0 rfl ?_
  refine r_iconst (v := 0) (pc := 11) X dX11_clearText_11 (by decide) ?_
  refine b_put (j := 1) (pc := 12) X ce_39 rfl inT11 tyX11 tyX11_ok nmX11 (by decide) w_1081 rfl (tyX11_ok 1 (by decide)) rfl rfl (Nat.le_of_ble_eq_true rfl) (cp_2497 _) rfl rfl dX11_clearText_12 hf (fun s2 hf => ?_)
  refine r_iload_n (pc := 15) X dX11_clearText_15 1 rfl ?_
  exact e_iret (pc := 16) X hr hf (Nat.le_refl _) (Nat.le_refl _) dX11_clearText_16
/-! f_M_errorAt -/
theorem dX11_errorAt_0 : decode cX11_errorAt 0 = .ok (.aload_n 0, 1) := by decide +kernel
theorem dX11_errorAt_1 : decode cX11_errorAt 1 = .ok (.iconst 0, 1) := by decide +kernel
theorem dX11_errorAt_2 : decode cX11_errorAt 2 = .ok (.putfield 102, 3) := by decide +kernel
theorem dX11_errorAt_5 : decode cX11_errorAt 5 = .ok (.aload_n 0, 1) := by decide +kernel
theorem dX11_errorAt_6 : decode cX11_errorAt 6 = .ok (.iconst 4, 1) := by decide +kernel
theorem dX11_errorAt_7 : decode cX11_errorAt 7 = .ok (.invokevirtual 266, 3) := by decide +kernel
theorem dX11_errorAt_10 : decode cX11_errorAt 10 = .ok (.ireturn, 1) := by decide +kernel
def f_M_errorAt (F : Nat) (s : St)  : Option (Int32 × St) :=
  lt (sI s 2551 0) fun s1 => ((f_M_turns F s1 4).bind fun x2 => (some (x2.1, x2.2)))
set_option maxHeartbeats 1000000 in
theorem c_f_M_errorAt {F : Nat} {s : St}  {r : Int32} {s' : St} (hf : f_M_errorAt F s  = some (r, s')) : CC true yX11_errorAt (Cond.code yX11_errorAt cX11_errorAt 1 (some .int)) 6 130 (fun B => [.ref (B + 39)]) s (fun B => (some (.int r))) s' 0 0 := by
  refine CC.of (fun B => [(0, .ref (B + 39))]) (by decide +kernel) (fun _ => rfl) (fun _ => (by simp [lg_sl, rfB_cat, catI, catL, catR])) (fun Γ D B X hr hin => ?_)
  have X : Cx Γ RX11 cX11_errorAt 1 D B { frames := 6, cells := 0, slots := 0, locals := 130 } := X
  unfold f_M_errorAt at hf
  refine r_aload_n (x := some 39) (pc := 0) X dX11_errorAt_0 0 rfl ?_
  refine r_iconst (v := 0) (pc := 1) X dX11_errorAt_1 (by decide) ?_
  refine b_put (j := 55) (pc := 2) X ce_39 rfl inT11 tyX11 tyX11_ok nmX11 (by decide) w_1135 rfl (tyX11_ok 55 (by decide)) rfl rfl (Nat.le_of_ble_eq_true rfl) (cp_2551 _) rfl rfl dX11_errorAt_2 hf (fun s1 hf => ?_)
  refine r_aload_n (x := some 39) (pc := 5) X dX11_errorAt_5 0 rfl ?_
  refine r_iconst (v := 4) (pc := 6) X dX11_errorAt_6 (by decide) ?_
  refine bnd hf (fun x2 h2 hf => ?_)
  refine r_callVi (As := [.int 4]) (st := []) (pc := 7) X (c_f_M_turns h2) rfl w_1272 w_1274 w_36 w_84 w_1275 hdV_X11_turns (Rc.s rfl ce_39) (by decide) (by decide) (by decide) (Nat.le_of_ble_eq_true rfl) dX11_errorAt_7 rfl ?_
  exact e_iret (pc := 10) X hr hf (Nat.le_refl _) (Nat.le_refl _) dX11_errorAt_10
/-! f_M_asked -/
theorem dX11_asked_0 : decode cX11_asked 0 = .ok (.aload_n 0, 1) := by decide +kernel
theorem dX11_asked_1 : decode cX11_asked 1 = .ok (.iload_n 1, 1) := by decide +kernel
theorem dX11_asked_2 : decode cX11_asked 2 = .ok (.iconst 0, 1) := by decide +kernel
theorem dX11_asked_3 : decode cX11_asked 3 = .ok (.aload_n 0, 1) := by decide +kernel
theorem dX11_asked_4 : decode cX11_asked 4 = .ok (.getfield 269, 3) := by decide +kernel
theorem dX11_asked_7 : decode cX11_asked 7 = .ok (.invokestatic 109, 3) := by decide +kernel
theorem dX11_asked_10 : decode cX11_asked 10 = .ok (.ifCond .eq 19, 3) := by decide +kernel
theorem dX11_asked_13 : decode cX11_asked 13 = .ok (.iload_n 2, 1) := by decide +kernel
theorem dX11_asked_14 : decode cX11_asked 14 = .ok (.iload_n 1, 1) := by decide +kernel
theorem dX11_asked_15 : decode cX11_asked 15 = .ok (.aload_n 0, 1) := by decide +kernel
theorem dX11_asked_16 : decode cX11_asked 16 = .ok (.getfield 269, 3) := by decide +kernel
theorem dX11_asked_19 : decode cX11_asked 19 = .ok (.invokestatic 109, 3) := by decide +kernel
theorem dX11_asked_22 : decode cX11_asked 22 = .ok (.ifCond .eq 7, 3) := by decide +kernel
theorem dX11_asked_25 : decode cX11_asked 25 = .ok (.iconst 0, 1) := by decide +kernel
theorem dX11_asked_26 : decode cX11_asked 26 = .ok (.goto 4, 3) := by decide +kernel
theorem dX11_asked_29 : decode cX11_asked 29 = .ok (.iconst 1, 1) := by decide +kernel
theorem dX11_asked_30 : decode cX11_asked 30 = .ok (.invokevirtual 263, 3) := by decide +kernel
theorem dX11_asked_33 : decode cX11_asked 33 = .ok (.ifCond .eq 24, 3) := by decide +kernel
theorem dX11_asked_36 : decode cX11_asked 36 = .ok (.aload_n 0, 1) := by decide +kernel
theorem dX11_asked_37 : decode cX11_asked 37 = .ok (.aload_n 0, 1) := by decide +kernel
theorem dX11_asked_38 : decode cX11_asked 38 = .ok (.iconst 4, 1) := by decide +kernel
theorem dX11_asked_39 : decode cX11_asked 39 = .ok (.invokevirtual 266, 3) := by decide +kernel
theorem dX11_asked_42 : decode cX11_asked 42 = .ok (.iconst (-1), 1) := by decide +kernel
theorem dX11_asked_43 : decode cX11_asked 43 = .ok (.if_icmp .ne 7, 3) := by decide +kernel
theorem dX11_asked_46 : decode cX11_asked 46 = .ok (.iconst 0, 1) := by decide +kernel
theorem dX11_asked_47 : decode cX11_asked 47 = .ok (.goto 4, 3) := by decide +kernel
theorem dX11_asked_50 : decode cX11_asked 50 = .ok (.iconst 2, 1) := by decide +kernel
theorem dX11_asked_51 : decode cX11_asked 51 = .ok (.invokevirtual 263, 3) := by decide +kernel
theorem dX11_asked_54 : decode cX11_asked 54 = .ok (.ifCond .ne 5, 3) := by decide +kernel
theorem dX11_asked_57 : decode cX11_asked 57 = .ok (.lconst 0, 1) := by decide +kernel
theorem dX11_asked_58 : decode cX11_asked 58 = .ok (.lreturn, 1) := by decide +kernel
theorem dX11_asked_59 : decode cX11_asked 59 = .ok (.aload_n 0, 1) := by decide +kernel
theorem dX11_asked_60 : decode cX11_asked 60 = .ok (.iconst 4, 1) := by decide +kernel
theorem dX11_asked_61 : decode cX11_asked 61 = .ok (.iload_n 1, 1) := by decide +kernel
theorem dX11_asked_62 : decode cX11_asked 62 = .ok (.iload_n 2, 1) := by decide +kernel
theorem dX11_asked_63 : decode cX11_asked 63 = .ok (.invokevirtual 272, 3) := by decide +kernel
theorem dX11_asked_66 : decode cX11_asked 66 = .ok (.lreturn, 1) := by decide +kernel
def f_M_asked_b30 (F : Nat) (s : St) (l1 : Int32) (l2 : Int32) (t1 : Int32) : Option (Int64 × St) :=
  (f_M_goes F s t1).bind fun x2 => (if x2.1 = 0 then
    (some (0, x2.2))
  else
    ((f_M_turns F x2.2 4).bind fun x3 => (if x3.1 = (-1) then
      ((f_M_goes F x3.2 0).bind fun x4 => (if x4.1 = 0 then
        (some (0, x4.2))
      else
        ((f_M_runs F x4.2 4 l1 l2).bind fun x5 => (some (x5.1, x5.2)))))
    else
      ((f_M_goes F x3.2 2).bind fun x6 => (if x6.1 = 0 then
        (some (0, x6.2))
      else
        ((f_M_runs F x6.2 4 l1 l2).bind fun x7 => (some (x7.1, x7.2))))))))
def f_M_asked (F : Nat) (s : St) (p1 : Int32) (p2 : Int32) : Option (Int64 × St) :=
  (f_M_isIn F s p1 0 (gI s 2526)).bind fun x1 => (if x1.1 = 0 then
    (f_M_asked_b30 F x1.2 p1 p2 1)
  else
    ((f_M_isIn F x1.2 p2 p1 (gI x1.2 2526)).bind fun x8 => (if x8.1 = 0 then
      (f_M_asked_b30 F x8.2 p1 p2 1)
    else
      (f_M_asked_b30 F x8.2 p1 p2 0))))
set_option maxHeartbeats 1000000 in
theorem c_f_M_asked_b30 {F : Nat} {Γ : Ga} {D : DD} {B : Nat} {r : Int64} {s' : St} (X : Cx Γ RX11 cX11_asked 3 D B { frames := 6, cells := 0, slots := 0, locals := 159 }) (hr : (Gme Γ).sig.returnType = (some .long)) {s : St} {l1 : Int32} {l2 : Int32} {t1 : Int32} (hf : f_M_asked_b30 F s l1 l2 t1 = some (r, s')) : V Γ D B true 3 (QM Γ D B true s' (some (.long r)) 0 0) 0 0 s 30 [(0, .ref (B + 39)), (1, .int l1), (2, .int l2)] [.int t1, .ref (B + 39)] := by
  unfold f_M_asked_b30 at hf
  refine bnd hf (fun x2 h2 hf => ?_)
  refine r_callVi (As := [.int t1]) (st := []) (pc := 30) X (c_f_M_goes h2) rfl w_1260 w_1262 w_35 w_84 w_1263 hdV_X11_goes (Rc.s rfl ce_39) (by decide) (by decide) (by decide) (Nat.le_of_ble_eq_true rfl) dX11_asked_30 rfl ?_
  refine b_if_eq (tgt := 57) (pc := 33) X dX11_asked_33 (by decide) hf (fun hf => ?_) (fun hf => ?_)
  · refine r_lconst (v := 0) (pc := 57) X dX11_asked_57 (by decide) ?_
    exact e_lret (pc := 58) X hr hf (Nat.le_refl _) (Nat.le_refl _) dX11_asked_58
  · refine r_aload_n (x := some 39) (pc := 36) X dX11_asked_36 0 rfl ?_
    refine r_aload_n (x := some 39) (pc := 37) X dX11_asked_37 0 rfl ?_
    refine r_iconst (v := 4) (pc := 38) X dX11_asked_38 (by decide) ?_
    refine bnd hf (fun x3 h3 hf => ?_)
    refine r_callVi (As := [.int 4]) (st := [.ref (B + 39)]) (pc := 39) X (c_f_M_turns h3) rfl w_1272 w_1274 w_36 w_84 w_1275 hdV_X11_turns (Rc.s rfl ce_39) (by decide) (by decide) (by decide) (Nat.le_of_ble_eq_true rfl) dX11_asked_39 rfl ?_
    refine r_iconst (v := -1) (pc := 42) X dX11_asked_42 (by decide) ?_
    refine b_icmp_ne (tgt := 50) (pc := 43) X dX11_asked_43 (by decide) hf (fun hf => ?_) (fun hf => ?_)
    · refine r_iconst (v := 0) (pc := 46) X dX11_asked_46 (by decide) ?_
      refine r_goto (tgt := 51) (pc := 47) X dX11_asked_47 (by decide) ?_
      refine bnd hf (fun x4 h4 hf => ?_)
      refine r_callVi (As := [.int 0]) (st := []) (pc := 51) X (c_f_M_goes h4) rfl w_1260 w_1262 w_35 w_84 w_1263 hdV_X11_goes (Rc.s rfl ce_39) (by decide) (by decide) (by decide) (Nat.le_of_ble_eq_true rfl) dX11_asked_51 rfl ?_
      refine b_if_ne (tgt := 59) (pc := 54) X dX11_asked_54 (by decide) hf (fun hf => ?_) (fun hf => ?_)
      · refine r_lconst (v := 0) (pc := 57) X dX11_asked_57 (by decide) ?_
        exact e_lret (pc := 58) X hr hf (Nat.le_refl _) (Nat.le_refl _) dX11_asked_58
      · refine r_aload_n (x := some 39) (pc := 59) X dX11_asked_59 0 rfl ?_
        refine r_iconst (v := 4) (pc := 60) X dX11_asked_60 (by decide) ?_
        refine r_iload_n (pc := 61) X dX11_asked_61 1 rfl ?_
        refine r_iload_n (pc := 62) X dX11_asked_62 2 rfl ?_
        refine bnd hf (fun x5 h5 hf => ?_)
        refine r_callVl (As := [.int 4, .int l1, .int l2]) (st := []) (pc := 63) X (c_f_M_runs h5) rfl w_1363 w_1365 w_54 w_84 w_1366 hdV_X11_runs (Rc.s rfl ce_39) (by decide) (by decide) (by decide) (Nat.le_of_ble_eq_true rfl) dX11_asked_63 rfl ?_
        exact e_lret (pc := 66) X hr hf (Nat.le_refl _) (Nat.le_refl _) dX11_asked_66
    · refine r_iconst (v := 2) (pc := 50) X dX11_asked_50 (by decide) ?_
      refine bnd hf (fun x6 h6 hf => ?_)
      refine r_callVi (As := [.int 2]) (st := []) (pc := 51) X (c_f_M_goes h6) rfl w_1260 w_1262 w_35 w_84 w_1263 hdV_X11_goes (Rc.s rfl ce_39) (by decide) (by decide) (by decide) (Nat.le_of_ble_eq_true rfl) dX11_asked_51 rfl ?_
      refine b_if_ne (tgt := 59) (pc := 54) X dX11_asked_54 (by decide) hf (fun hf => ?_) (fun hf => ?_)
      · refine r_lconst (v := 0) (pc := 57) X dX11_asked_57 (by decide) ?_
        exact e_lret (pc := 58) X hr hf (Nat.le_refl _) (Nat.le_refl _) dX11_asked_58
      · refine r_aload_n (x := some 39) (pc := 59) X dX11_asked_59 0 rfl ?_
        refine r_iconst (v := 4) (pc := 60) X dX11_asked_60 (by decide) ?_
        refine r_iload_n (pc := 61) X dX11_asked_61 1 rfl ?_
        refine r_iload_n (pc := 62) X dX11_asked_62 2 rfl ?_
        refine bnd hf (fun x7 h7 hf => ?_)
        refine r_callVl (As := [.int 4, .int l1, .int l2]) (st := []) (pc := 63) X (c_f_M_runs h7) rfl w_1363 w_1365 w_54 w_84 w_1366 hdV_X11_runs (Rc.s rfl ce_39) (by decide) (by decide) (by decide) (Nat.le_of_ble_eq_true rfl) dX11_asked_63 rfl ?_
        exact e_lret (pc := 66) X hr hf (Nat.le_refl _) (Nat.le_refl _) dX11_asked_66
set_option maxHeartbeats 1000000 in
theorem c_f_M_asked {F : Nat} {s : St} {p1 : Int32} {p2 : Int32} {r : Int64} {s' : St} (hf : f_M_asked F s p1 p2 = some (r, s')) : CC true yX11_asked (Cond.code yX11_asked cX11_asked 3 (some .long)) 6 159 (fun B => [.ref (B + 39), .int p1, .int p2]) s (fun B => (some (.long r))) s' 0 0 := by
  refine CC.of (fun B => [(0, .ref (B + 39)), (1, .int p1), (2, .int p2)]) (by decide +kernel) (fun _ => rfl) (fun _ => (by simp [lg_sl, rfB_cat, catI, catL, catR])) (fun Γ D B X hr hin => ?_)
  have X : Cx Γ RX11 cX11_asked 3 D B { frames := 6, cells := 0, slots := 0, locals := 159 } := X
  unfold f_M_asked at hf
  refine r_aload_n (x := some 39) (pc := 0) X dX11_asked_0 0 rfl ?_
  refine r_iload_n (pc := 1) X dX11_asked_1 1 rfl ?_
  refine r_iconst (v := 0) (pc := 2) X dX11_asked_2 (by decide) ?_
  refine r_aload_n (x := some 39) (pc := 3) X dX11_asked_3 0 rfl ?_
  refine r_get (j := 30) (pc := 4) X ce_39 rfl inT11 (by decide) w_1110 rfl dX11_asked_4 ?_
  refine bnd hf (fun x1 h1 hf => ?_)
  refine r_callSi (As := [.int p1, .int 0, .int (gI s 2526)]) (st := [.ref (B + 39)]) (pc := 7) X (c_f_M_isIn h1) rfl w_1257 w_1258 w_84 w_1259 hdS_X11_isIn (by decide) (by decide) (by decide) (Nat.le_of_ble_eq_true rfl) dX11_asked_7 rfl ?_
  refine b_if_eq (tgt := 29) (pc := 10) X dX11_asked_10 (by decide) hf (fun hf => ?_) (fun hf => ?_)
  · refine r_iconst (v := 1) (pc := 29) X dX11_asked_29 (by decide) ?_
    exact c_f_M_asked_b30 X hr hf
  · refine r_iload_n (pc := 13) X dX11_asked_13 2 rfl ?_
    refine r_iload_n (pc := 14) X dX11_asked_14 1 rfl ?_
    refine r_aload_n (x := some 39) (pc := 15) X dX11_asked_15 0 rfl ?_
    refine r_get (j := 30) (pc := 16) X ce_39 rfl inT11 (by decide) w_1110 rfl dX11_asked_16 ?_
    refine bnd hf (fun x8 h8 hf => ?_)
    refine r_callSi (As := [.int p2, .int p1, .int (gI x1.2 2526)]) (st := [.ref (B + 39)]) (pc := 19) X (c_f_M_isIn h8) rfl w_1257 w_1258 w_84 w_1259 hdS_X11_isIn (by decide) (by decide) (by decide) (Nat.le_of_ble_eq_true rfl) dX11_asked_19 rfl ?_
    refine b_if_eq (tgt := 29) (pc := 22) X dX11_asked_22 (by decide) hf (fun hf => ?_) (fun hf => ?_)
    · refine r_iconst (v := 1) (pc := 29) X dX11_asked_29 (by decide) ?_
      exact c_f_M_asked_b30 X hr hf
    · refine r_iconst (v := 0) (pc := 25) X dX11_asked_25 (by decide) ?_
      refine r_goto (tgt := 30) (pc := 26) X dX11_asked_26 (by decide) ?_
      exact c_f_M_asked_b30 X hr hf
/-! f_M_ask -/
theorem dX11_ask_0 : decode cX11_ask 0 = .ok (.aload_n 0, 1) := by decide +kernel
theorem dX11_ask_1 : decode cX11_ask 1 = .ok (.iload_n 1, 1) := by decide +kernel
theorem dX11_ask_2 : decode cX11_ask 2 = .ok (.iload_n 2, 1) := by decide +kernel
theorem dX11_ask_3 : decode cX11_ask 3 = .ok (.invokevirtual 276, 3) := by decide +kernel
theorem dX11_ask_6 : decode cX11_ask 6 = .ok (.lreturn, 1) := by decide +kernel
def f_M_ask (F : Nat) (s : St) (p1 : Int32) (p2 : Int32) : Option (Int64 × St) :=
  (f_M_asked F s p1 p2).bind fun x1 => (some (x1.1, x1.2))
set_option maxHeartbeats 1000000 in
theorem c_f_M_ask {F : Nat} {s : St} {p1 : Int32} {p2 : Int32} {r : Int64} {s' : St} (hf : f_M_ask F s p1 p2 = some (r, s')) : CC true yX11_ask (Cond.code yX11_ask cX11_ask 3 (some .long)) 7 181 (fun B => [.ref (B + 39), .int p1, .int p2]) s (fun B => (some (.long r))) s' 0 0 := by
  refine CC.of (fun B => [(0, .ref (B + 39)), (1, .int p1), (2, .int p2)]) (by decide +kernel) (fun _ => rfl) (fun _ => (by simp [lg_sl, rfB_cat, catI, catL, catR])) (fun Γ D B X hr hin => ?_)
  have X : Cx Γ RX11 cX11_ask 3 D B { frames := 7, cells := 0, slots := 0, locals := 181 } := X
  unfold f_M_ask at hf
  refine r_aload_n (x := some 39) (pc := 0) X dX11_ask_0 0 rfl ?_
  refine r_iload_n (pc := 1) X dX11_ask_1 1 rfl ?_
  refine r_iload_n (pc := 2) X dX11_ask_2 2 rfl ?_
  refine bnd hf (fun x1 h1 hf => ?_)
  refine r_callVl (As := [.int p1, .int p2]) (st := []) (pc := 3) X (c_f_M_asked h1) rfl w_1359 w_1361 w_53 w_84 w_1362 hdV_X11_asked (Rc.s rfl ce_39) (by decide) (by decide) (by decide) (Nat.le_of_ble_eq_true rfl) dX11_ask_3 rfl ?_
  exact e_lret (pc := 6) X hr hf (Nat.le_refl _) (Nat.le_refl _) dX11_ask_6
/-! f_M_askByCodes -/
theorem dX11_askByCodes_0 : decode cX11_askByCodes 0 = .ok (.aload_n 0, 1) := by decide +kernel
theorem dX11_askByCodes_1 : decode cX11_askByCodes 1 = .ok (.iload_n 1, 1) := by decide +kernel
theorem dX11_askByCodes_2 : decode cX11_askByCodes 2 = .ok (.iload_n 2, 1) := by decide +kernel
theorem dX11_askByCodes_3 : decode cX11_askByCodes 3 = .ok (.invokevirtual 276, 3) := by decide +kernel
theorem dX11_askByCodes_6 : decode cX11_askByCodes 6 = .ok (.lreturn, 1) := by decide +kernel
def f_M_askByCodes (F : Nat) (s : St) (p1 : Int32) (p2 : Int32) : Option (Int64 × St) :=
  (f_M_asked F s p1 p2).bind fun x1 => (some (x1.1, x1.2))
set_option maxHeartbeats 1000000 in
theorem c_f_M_askByCodes {F : Nat} {s : St} {p1 : Int32} {p2 : Int32} {r : Int64} {s' : St} (hf : f_M_askByCodes F s p1 p2 = some (r, s')) : CC true yX11_askByCodes (Cond.code yX11_askByCodes cX11_askByCodes 3 (some .long)) 7 181 (fun B => [.ref (B + 39), .int p1, .int p2]) s (fun B => (some (.long r))) s' 0 0 := by
  refine CC.of (fun B => [(0, .ref (B + 39)), (1, .int p1), (2, .int p2)]) (by decide +kernel) (fun _ => rfl) (fun _ => (by simp [lg_sl, rfB_cat, catI, catL, catR])) (fun Γ D B X hr hin => ?_)
  have X : Cx Γ RX11 cX11_askByCodes 3 D B { frames := 7, cells := 0, slots := 0, locals := 181 } := X
  unfold f_M_askByCodes at hf
  refine r_aload_n (x := some 39) (pc := 0) X dX11_askByCodes_0 0 rfl ?_
  refine r_iload_n (pc := 1) X dX11_askByCodes_1 1 rfl ?_
  refine r_iload_n (pc := 2) X dX11_askByCodes_2 2 rfl ?_
  refine bnd hf (fun x1 h1 hf => ?_)
  refine r_callVl (As := [.int p1, .int p2]) (st := []) (pc := 3) X (c_f_M_asked h1) rfl w_1359 w_1361 w_53 w_84 w_1362 hdV_X11_asked (Rc.s rfl ce_39) (by decide) (by decide) (by decide) (Nat.le_of_ble_eq_true rfl) dX11_askByCodes_3 rfl ?_
  exact e_lret (pc := 6) X hr hf (Nat.le_refl _) (Nat.le_refl _) dX11_askByCodes_6
/-! f_M_isPerson -/
theorem dX11_isPerson_0 : decode cX11_isPerson 0 = .ok (.iload_n 1, 1) := by decide +kernel
theorem dX11_isPerson_1 : decode cX11_isPerson 1 = .ok (.iconst 0, 1) := by decide +kernel
theorem dX11_isPerson_2 : decode cX11_isPerson 2 = .ok (.aload_n 0, 1) := by decide +kernel
theorem dX11_isPerson_3 : decode cX11_isPerson 3 = .ok (.getfield 278, 3) := by decide +kernel
theorem dX11_isPerson_6 : decode cX11_isPerson 6 = .ok (.iconst 1, 1) := by decide +kernel
theorem dX11_isPerson_7 : decode cX11_isPerson 7 = .ok (.isub, 1) := by decide +kernel
theorem dX11_isPerson_8 : decode cX11_isPerson 8 = .ok (.invokestatic 109, 3) := by decide +kernel
theorem dX11_isPerson_11 : decode cX11_isPerson 11 = .ok (.ireturn, 1) := by decide +kernel
def f_M_isPerson (F : Nat) (s : St) (p1 : Int32) : Option (Int32 × St) :=
  (f_M_isIn F s p1 0 ((gI s 2532) - 1)).bind fun x1 => (if x1.1 = 0 ∨ x1.1 = 1 then (some (x1.1, x1.2)) else none)
set_option maxHeartbeats 1000000 in
theorem c_f_M_isPerson {F : Nat} {s : St} {p1 : Int32} {r : Int32} {s' : St} (hf : f_M_isPerson F s p1 = some (r, s')) : CC true yX11_isPerson (Cond.code yX11_isPerson cX11_isPerson 2 (some .boolean)) 1 22 (fun B => [.ref (B + 39), .int p1]) s (fun B => (some (.int r))) s' 0 0 := by
  refine CC.of (fun B => [(0, .ref (B + 39)), (1, .int p1)]) (by decide +kernel) (fun _ => rfl) (fun _ => (by simp [lg_sl, rfB_cat, catI, catL, catR])) (fun Γ D B X hr hin => ?_)
  have X : Cx Γ RX11 cX11_isPerson 2 D B { frames := 1, cells := 0, slots := 0, locals := 22 } := X
  unfold f_M_isPerson at hf
  refine r_iload_n (pc := 0) X dX11_isPerson_0 1 rfl ?_
  refine r_iconst (v := 0) (pc := 1) X dX11_isPerson_1 (by decide) ?_
  refine r_aload_n (x := some 39) (pc := 2) X dX11_isPerson_2 0 rfl ?_
  refine r_get (j := 36) (pc := 3) X ce_39 rfl inT11 (by decide) w_1116 rfl dX11_isPerson_3 ?_
  refine r_iconst (v := 1) (pc := 6) X dX11_isPerson_6 (by decide) ?_
  refine r_isub (pc := 7) X dX11_isPerson_7 ?_
  refine bnd hf (fun x1 h1 hf => ?_)
  refine r_callSi (As := [.int p1, .int 0, .int ((gI s 2532) - 1)]) (st := []) (pc := 8) X (c_f_M_isIn h1) rfl w_1257 w_1258 w_84 w_1259 hdS_X11_isIn (by decide) (by decide) (by decide) (Nat.le_of_ble_eq_true rfl) dX11_isPerson_8 rfl ?_
  refine ifo hf (fun hx hf => ?_)
  exact e_zret (pc := 11) X hr hx hf (Nat.le_refl _) (Nat.le_refl _) dX11_isPerson_11
/-! f_M_isOffIn -/
theorem dX11_isOffIn_0 : decode cX11_isOffIn 0 = .ok (.aload_n 0, 1) := by decide +kernel
theorem dX11_isOffIn_1 : decode cX11_isOffIn 1 = .ok (.getfield 60, 3) := by decide +kernel
theorem dX11_isOffIn_4 : decode cX11_isOffIn 4 = .ok (.bipush 126, 2) := by decide +kernel
theorem dX11_isOffIn_6 : decode cX11_isOffIn 6 = .ok (.iload_n 1, 1) := by decide +kernel
theorem dX11_isOffIn_7 : decode cX11_isOffIn 7 = .ok (.imul, 1) := by decide +kernel
theorem dX11_isOffIn_8 : decode cX11_isOffIn 8 = .ok (.iload_n 2, 1) := by decide +kernel
theorem dX11_isOffIn_9 : decode cX11_isOffIn 9 = .ok (.iadd, 1) := by decide +kernel
theorem dX11_isOffIn_10 : decode cX11_isOffIn 10 = .ok (.baload, 1) := by decide +kernel
theorem dX11_isOffIn_11 : decode cX11_isOffIn 11 = .ok (.ireturn, 1) := by decide +kernel
def f_M_isOffIn (F : Nat) (s : St) (p1 : Int32) (p2 : Int32) : Option (Int32 × St) :=
  (ix 1008 (((126 : Int32) * p1) + p2)).bind fun j1 => (if gA s 56 j1 = 0 ∨ gA s 56 j1 = 1 then (some ((gA s 56 j1), s)) else none)
set_option maxHeartbeats 1000000 in
theorem c_f_M_isOffIn {F : Nat} {s : St} {p1 : Int32} {p2 : Int32} {r : Int32} {s' : St} (hf : f_M_isOffIn F s p1 p2 = some (r, s')) : CC true yX11_isOffIn (Cond.code yX11_isOffIn cX11_isOffIn 3 (some .boolean)) 0 0 (fun B => [.ref (B + 39), .int p1, .int p2]) s (fun B => (some (.int r))) s' 0 0 := by
  refine CC.of (fun B => [(0, .ref (B + 39)), (1, .int p1), (2, .int p2)]) (by decide +kernel) (fun _ => rfl) (fun _ => (by simp [lg_sl, rfB_cat, catI, catL, catR])) (fun Γ D B X hr hin => ?_)
  have X : Cx Γ RX11 cX11_isOffIn 3 D B { frames := 0, cells := 0, slots := 0, locals := 0 } := X
  unfold f_M_isOffIn at hf
  refine r_aload_n (x := some 39) (pc := 0) X dX11_isOffIn_0 0 rfl ?_
  refine r_get (j := 37) (pc := 1) X ce_39 rfl inT11 (by decide) w_1117 rfl dX11_isOffIn_1 ?_
  refine r_bipush (v := 126) (pc := 4) X dX11_isOffIn_4 (by decide) ?_
  refine r_iload_n (pc := 6) X dX11_isOffIn_6 1 rfl ?_
  refine r_imul (pc := 7) X dX11_isOffIn_7 ?_
  refine r_iload_n (pc := 8) X dX11_isOffIn_8 2 rfl ?_
  refine r_iadd (pc := 9) X dX11_isOffIn_9 ?_
  refine b_zald (pc := 10) X ce_56 dX11_isOffIn_10 hf (fun j1 hf => ?_)
  refine ifo hf (fun hx hf => ?_)
  exact e_zret (pc := 11) X hr hx hf (Nat.le_refl _) (Nat.le_refl _) dX11_isOffIn_11
/-! f_M_plannedFor -/
theorem dX11_plannedFor_0 : decode cX11_plannedFor 0 = .ok (.aload_n 0, 1) := by decide +kernel
theorem dX11_plannedFor_1 : decode cX11_plannedFor 1 = .ok (.getfield 278, 3) := by decide +kernel
theorem dX11_plannedFor_4 : decode cX11_plannedFor 4 = .ok (.ifCond .ne 7, 3) := by decide +kernel
theorem dX11_plannedFor_7 : decode cX11_plannedFor 7 = .ok (.iconst (-1), 1) := by decide +kernel
theorem dX11_plannedFor_8 : decode cX11_plannedFor 8 = .ok (.goto 28, 3) := by decide +kernel
theorem dX11_plannedFor_11 : decode cX11_plannedFor 11 = .ok (.aload_n 0, 1) := by decide +kernel
theorem dX11_plannedFor_12 : decode cX11_plannedFor 12 = .ok (.getfield 63, 3) := by decide +kernel
theorem dX11_plannedFor_15 : decode cX11_plannedFor 15 = .ok (.iload_n 1, 1) := by decide +kernel
theorem dX11_plannedFor_16 : decode cX11_plannedFor 16 = .ok (.iaload, 1) := by decide +kernel
theorem dX11_plannedFor_17 : decode cX11_plannedFor 17 = .ok (.iconst (-1), 1) := by decide +kernel
theorem dX11_plannedFor_18 : decode cX11_plannedFor 18 = .ok (.if_icmp .ne 12, 3) := by decide +kernel
theorem dX11_plannedFor_21 : decode cX11_plannedFor 21 = .ok (.iload_n 1, 1) := by decide +kernel
theorem dX11_plannedFor_22 : decode cX11_plannedFor 22 = .ok (.aload_n 0, 1) := by decide +kernel
theorem dX11_plannedFor_23 : decode cX11_plannedFor 23 = .ok (.getfield 278, 3) := by decide +kernel
theorem dX11_plannedFor_26 : decode cX11_plannedFor 26 = .ok (.irem, 1) := by decide +kernel
theorem dX11_plannedFor_27 : decode cX11_plannedFor 27 = .ok (.goto 9, 3) := by decide +kernel
theorem dX11_plannedFor_30 : decode cX11_plannedFor 30 = .ok (.aload_n 0, 1) := by decide +kernel
theorem dX11_plannedFor_31 : decode cX11_plannedFor 31 = .ok (.getfield 63, 3) := by decide +kernel
theorem dX11_plannedFor_34 : decode cX11_plannedFor 34 = .ok (.iload_n 1, 1) := by decide +kernel
theorem dX11_plannedFor_35 : decode cX11_plannedFor 35 = .ok (.iaload, 1) := by decide +kernel
theorem dX11_plannedFor_36 : decode cX11_plannedFor 36 = .ok (.ireturn, 1) := by decide +kernel
def f_M_plannedFor (F : Nat) (s : St) (p1 : Int32) : Option (Int32 × St) :=
  if (gI s 2532) = 0 then
    (some ((-1), s))
  else
    ((ix 126 p1).bind fun j1 => (if (gA s 57 j1) = (-1) then
      (if gI s 2532 = 0 then none else (some ((p1 - p1 / (gI s 2532) * (gI s 2532)), s)))
    else
      ((ix 126 p1).bind fun j2 => (some ((gA s 57 j2), s)))))
set_option maxHeartbeats 1000000 in
theorem c_f_M_plannedFor {F : Nat} {s : St} {p1 : Int32} {r : Int32} {s' : St} (hf : f_M_plannedFor F s p1 = some (r, s')) : CC true yX11_plannedFor (Cond.code yX11_plannedFor cX11_plannedFor 2 (some .int)) 0 0 (fun B => [.ref (B + 39), .int p1]) s (fun B => (some (.int r))) s' 0 0 := by
  refine CC.of (fun B => [(0, .ref (B + 39)), (1, .int p1)]) (by decide +kernel) (fun _ => rfl) (fun _ => (by simp [lg_sl, rfB_cat, catI, catL, catR])) (fun Γ D B X hr hin => ?_)
  have X : Cx Γ RX11 cX11_plannedFor 2 D B { frames := 0, cells := 0, slots := 0, locals := 0 } := X
  unfold f_M_plannedFor at hf
  refine r_aload_n (x := some 39) (pc := 0) X dX11_plannedFor_0 0 rfl ?_
  refine r_get (j := 36) (pc := 1) X ce_39 rfl inT11 (by decide) w_1116 rfl dX11_plannedFor_1 ?_
  refine b_if_ne (tgt := 11) (pc := 4) X dX11_plannedFor_4 (by decide) hf (fun hf => ?_) (fun hf => ?_)
  · refine r_iconst (v := -1) (pc := 7) X dX11_plannedFor_7 (by decide) ?_
    refine r_goto (tgt := 36) (pc := 8) X dX11_plannedFor_8 (by decide) ?_
    exact e_iret (pc := 36) X hr hf (Nat.le_refl _) (Nat.le_refl _) dX11_plannedFor_36
  · refine r_aload_n (x := some 39) (pc := 11) X dX11_plannedFor_11 0 rfl ?_
    refine r_get (j := 38) (pc := 12) X ce_39 rfl inT11 (by decide) w_1118 rfl dX11_plannedFor_12 ?_
    refine r_iload_n (pc := 15) X dX11_plannedFor_15 1 rfl ?_
    refine b_iald (pc := 16) X ce_57 dX11_plannedFor_16 hf (fun j1 hf => ?_)
    refine r_iconst (v := -1) (pc := 17) X dX11_plannedFor_17 (by decide) ?_
    refine b_icmp_ne (tgt := 30) (pc := 18) X dX11_plannedFor_18 (by decide) hf (fun hf => ?_) (fun hf => ?_)
    · refine r_iload_n (pc := 21) X dX11_plannedFor_21 1 rfl ?_
      refine r_aload_n (x := some 39) (pc := 22) X dX11_plannedFor_22 0 rfl ?_
      refine r_get (j := 36) (pc := 23) X ce_39 rfl inT11 (by decide) w_1116 rfl dX11_plannedFor_23 ?_
      refine ifz hf (fun hne hf => ?_)
      refine r_irem (pc := 26) X dX11_plannedFor_26 hne ?_
      refine r_goto (tgt := 36) (pc := 27) X dX11_plannedFor_27 (by decide) ?_
      exact e_iret (pc := 36) X hr hf (Nat.le_refl _) (Nat.le_refl _) dX11_plannedFor_36
    · refine r_aload_n (x := some 39) (pc := 30) X dX11_plannedFor_30 0 rfl ?_
      refine r_get (j := 38) (pc := 31) X ce_39 rfl inT11 (by decide) w_1118 rfl dX11_plannedFor_31 ?_
      refine r_iload_n (pc := 34) X dX11_plannedFor_34 1 rfl ?_
      refine b_iald (pc := 35) X ce_57 dX11_plannedFor_35 hf (fun j2 hf => ?_)
      exact e_iret (pc := 36) X hr hf (Nat.le_refl _) (Nat.le_refl _) dX11_plannedFor_36
