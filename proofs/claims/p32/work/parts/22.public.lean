/-! f_P_type -/
theorem dX10_type_0 : decode cX10_type 0 = .ok (.iload_n 1, 1) := by decide +kernel
theorem dX10_type_1 : decode cX10_type 1 = .ok (.bipush 32, 2) := by decide +kernel
theorem dX10_type_3 : decode cX10_type 3 = .ok (.if_icmp .lt 9, 3) := by decide +kernel
theorem dX10_type_6 : decode cX10_type 6 = .ok (.iload_n 1, 1) := by decide +kernel
theorem dX10_type_7 : decode cX10_type 7 = .ok (.bipush 126, 2) := by decide +kernel
theorem dX10_type_9 : decode cX10_type 9 = .ok (.if_icmp .le 13, 3) := by decide +kernel
theorem dX10_type_12 : decode cX10_type 12 = .ok (.new 78, 3) := by decide +kernel
theorem dX10_type_15 : decode cX10_type 15 = .ok (.dup, 1) := by decide +kernel
theorem dX10_type_16 : decode cX10_type 16 = .ok (.ldc 80, 2) := by decide +kernel
theorem dX10_type_18 : decode cX10_type 18 = .ok (.invokespecial 82, 3) := by decide +kernel
theorem dX10_type_21 : decode cX10_type 21 = .ok (.athrow, 1) := by decide +kernel
theorem dX10_type_22 : decode cX10_type 22 = .ok (.aload_n 0, 1) := by decide +kernel
theorem dX10_type_23 : decode cX10_type 23 = .ok (.getfield 13, 3) := by decide +kernel
theorem dX10_type_26 : decode cX10_type 26 = .ok (.ifCond .lt 15, 3) := by decide +kernel
theorem dX10_type_29 : decode cX10_type 29 = .ok (.aload_n 0, 1) := by decide +kernel
theorem dX10_type_30 : decode cX10_type 30 = .ok (.getfield 13, 3) := by decide +kernel
theorem dX10_type_33 : decode cX10_type 33 = .ok (.aload_n 0, 1) := by decide +kernel
theorem dX10_type_34 : decode cX10_type 34 = .ok (.getfield 9, 3) := by decide +kernel
theorem dX10_type_37 : decode cX10_type 37 = .ok (.arraylength, 1) := by decide +kernel
theorem dX10_type_38 : decode cX10_type 38 = .ok (.if_icmp .lt 13, 3) := by decide +kernel
theorem dX10_type_41 : decode cX10_type 41 = .ok (.new 85, 3) := by decide +kernel
theorem dX10_type_44 : decode cX10_type 44 = .ok (.dup, 1) := by decide +kernel
theorem dX10_type_45 : decode cX10_type 45 = .ok (.ldc 87, 2) := by decide +kernel
theorem dX10_type_47 : decode cX10_type 47 = .ok (.invokespecial 89, 3) := by decide +kernel
theorem dX10_type_50 : decode cX10_type 50 = .ok (.athrow, 1) := by decide +kernel
theorem dX10_type_51 : decode cX10_type 51 = .ok (.aload_n 0, 1) := by decide +kernel
theorem dX10_type_52 : decode cX10_type 52 = .ok (.getfield 9, 3) := by decide +kernel
theorem dX10_type_55 : decode cX10_type 55 = .ok (.aload_n 0, 1) := by decide +kernel
theorem dX10_type_56 : decode cX10_type 56 = .ok (.getfield 13, 3) := by decide +kernel
theorem dX10_type_59 : decode cX10_type 59 = .ok (.iload_n 1, 1) := by decide +kernel
theorem dX10_type_60 : decode cX10_type 60 = .ok (.castore, 1) := by decide +kernel
theorem dX10_type_61 : decode cX10_type 61 = .ok (.aload_n 0, 1) := by decide +kernel
theorem dX10_type_62 : decode cX10_type 62 = .ok (.dup, 1) := by decide +kernel
theorem dX10_type_63 : decode cX10_type 63 = .ok (.getfield 13, 3) := by decide +kernel
theorem dX10_type_66 : decode cX10_type 66 = .ok (.iconst 1, 1) := by decide +kernel
theorem dX10_type_67 : decode cX10_type 67 = .ok (.iadd, 1) := by decide +kernel
theorem dX10_type_68 : decode cX10_type 68 = .ok (.putfield 13, 3) := by decide +kernel
theorem dX10_type_71 : decode cX10_type 71 = .ok (.aload_n 0, 1) := by decide +kernel
theorem dX10_type_72 : decode cX10_type 72 = .ok (.getfield 13, 3) := by decide +kernel
theorem dX10_type_75 : decode cX10_type 75 = .ok (.ireturn, 1) := by decide +kernel
def f_P_type (F Z : Nat) (s : St) (p1 : Int32) : Option ((Int32 ⊕ Nat) × St) :=
  if p1 < 32 then
    (if sz s < Z then some (.inr 0, sz' s (sz s + 1)) else none)
  else
    (if p1 ≤ 126 then
      (if (gI s 1) < 0 then
        (if sz s < Z then some (.inr 1, sz' s (sz s + 1)) else none)
      else
        (if (gI s 1) < 40 then
          (if vp_nar .char p1 = p1 then ((ix 40 (gI s 1)).bind fun j1 => (lt (sA s 1 j1 p1) fun s2 => (lt (sI s2 1 ((gI s2 1) + 1)) fun s3 => (some (.inl (gI s3 1), s3))))) else none)
        else
          (if sz s < Z then some (.inr 1, sz' s (sz s + 1)) else none)))
    else
      (if sz s < Z then some (.inr 0, sz' s (sz s + 1)) else none))
set_option maxHeartbeats 1000000 in
theorem c_f_P_type {F Z : Nat} {s : St} {p1 : Int32} {r : Int32 ⊕ Nat} {s' : St} (hf : f_P_type F Z s p1 = some (r, s')) : CX true yX10_type (Cond.code yX10_type cX10_type 2 (some .int)) (6) (90) (Z - sz s) (12 * (Z - sz s)) (fun B => [.ref (B + 0), .int p1]) s (fun B => (ouI r)) s' (Z - sz s) (12 * (Z - sz s)) := by
  refine CX.ofX (fun B => [(0, .ref (B + 0)), (1, .int p1)]) (by decide +kernel) (fun _ => rfl) (fun _ => (by simp [lg_sl, rfB_cat, catI, catL, catR])) (fun Γ D B X Y hr => ?_)
  have X : Cx Γ RX10 cX10_type 2 D B (RM Γ B Z (6) (90)) := X
  unfold f_P_type at hf
  refine r_iload_n (pc := 0) X dX10_type_0 1 rfl ?_
  refine r_bipush (v := 32) (pc := 1) X dX10_type_1 (by decide) ?_
  refine b_icmp_lt (tgt := 12) (pc := 3) X dX10_type_3 (by decide) hf (fun hf => ?_) (fun hf => ?_)
  · exact x_throw (e := 0) (pc := 12) X Y (by decide +kernel) tnames_ok w_447 w_52 thr_0_82 (thg_0_82 _) str_80 rfl (by decide) (by decide) dX10_type_12 dX10_type_15 dX10_type_16 dX10_type_18 dX10_type_21 hf
  · refine r_iload_n (pc := 6) X dX10_type_6 1 rfl ?_
    refine r_bipush (v := 126) (pc := 7) X dX10_type_7 (by decide) ?_
    refine b_icmp_le (tgt := 22) (pc := 9) X dX10_type_9 (by decide) hf (fun hf => ?_) (fun hf => ?_)
    · refine r_aload_n (x := some 0) (pc := 22) X dX10_type_22 0 rfl ?_
      refine r_get (j := 1) (pc := 23) X ce_0 rfl inT10 (by decide) w_281 rfl dX10_type_23 ?_
      refine b_if_lt (tgt := 41) (pc := 26) X dX10_type_26 (by decide) hf (fun hf => ?_) (fun hf => ?_)
      · exact x_throw (e := 1) (pc := 41) X Y (by decide +kernel) tnames_ok w_463 w_53 thr_1_89 (thg_1_89 _) str_87 rfl (by decide) (by decide) dX10_type_41 dX10_type_44 dX10_type_45 dX10_type_47 dX10_type_50 hf
      · refine r_aload_n (x := some 0) (pc := 29) X dX10_type_29 0 rfl ?_
        refine r_get (j := 1) (pc := 30) X ce_0 rfl inT10 (by decide) w_281 rfl dX10_type_30 ?_
        refine r_aload_n (x := some 0) (pc := 33) X dX10_type_33 0 rfl ?_
        refine r_get (j := 0) (pc := 34) X ce_0 rfl inT10 (by decide) w_280 rfl dX10_type_34 ?_
        refine r_alen (t0 := 0) (v := 40) (pc := 37) X ce_1 rfl (by decide) dX10_type_37 ?_
        refine b_icmp_lt (tgt := 51) (pc := 38) X dX10_type_38 (by decide) hf (fun hf => ?_) (fun hf => ?_)
        · refine r_aload_n (x := some 0) (pc := 51) X dX10_type_51 0 rfl ?_
          refine r_get (j := 0) (pc := 52) X ce_0 rfl inT10 (by decide) w_280 rfl dX10_type_52 ?_
          refine r_aload_n (x := some 0) (pc := 55) X dX10_type_55 0 rfl ?_
          refine r_get (j := 1) (pc := 56) X ce_0 rfl inT10 (by decide) w_281 rfl dX10_type_56 ?_
          refine r_iload_n (pc := 59) X dX10_type_59 1 rfl ?_
          refine z_cast (pc := 60) X ce_1 (fun _ => ca_1 _ _) dX10_type_60 hf (fun j1 s2 hf => ?_)
          refine r_aload_n (x := some 0) (pc := 61) X dX10_type_61 0 rfl ?_
          refine r_dup (pc := 62) X dX10_type_62 rfl ?_
          refine r_get (j := 1) (pc := 63) X ce_0 rfl inT10 (by decide) w_281 rfl dX10_type_63 ?_
          refine r_iconst (v := 1) (pc := 66) X dX10_type_66 (by decide) ?_
          refine r_iadd (pc := 67) X dX10_type_67 ?_
          refine z_put (j := 1) (pc := 68) X ce_0 rfl inT10 tyX10 tyX10_ok nmX10 (by decide) w_281 rfl (tyX10_ok 1 (by decide)) rfl rfl (Nat.le_of_ble_eq_true rfl) (cp_1 _) rfl rfl dX10_type_68 hf (fun s3 hf => ?_)
          refine r_aload_n (x := some 0) (pc := 71) X dX10_type_71 0 rfl ?_
          refine r_get (j := 1) (pc := 72) X ce_0 rfl inT10 (by decide) w_281 rfl dX10_type_72 ?_
          exact x_iret (pc := 75) X hr hf dX10_type_75
        · exact x_throw (e := 1) (pc := 41) X Y (by decide +kernel) tnames_ok w_463 w_53 thr_1_89 (thg_1_89 _) str_87 rfl (by decide) (by decide) dX10_type_41 dX10_type_44 dX10_type_45 dX10_type_47 dX10_type_50 hf
    · exact x_throw (e := 0) (pc := 12) X Y (by decide +kernel) tnames_ok w_447 w_52 thr_0_82 (thg_0_82 _) str_80 rfl (by decide) (by decide) dX10_type_12 dX10_type_15 dX10_type_16 dX10_type_18 dX10_type_21 hf
/-! f_P_errorAt -/
theorem dX10_errorAt_0 : decode cX10_errorAt 0 = .ok (.aload_n 0, 1) := by decide +kernel
theorem dX10_errorAt_1 : decode cX10_errorAt 1 = .ok (.getfield 53, 3) := by decide +kernel
theorem dX10_errorAt_4 : decode cX10_errorAt 4 = .ok (.aload_n 0, 1) := by decide +kernel
theorem dX10_errorAt_5 : decode cX10_errorAt 5 = .ok (.getfield 9, 3) := by decide +kernel
theorem dX10_errorAt_8 : decode cX10_errorAt 8 = .ok (.aload_n 0, 1) := by decide +kernel
theorem dX10_errorAt_9 : decode cX10_errorAt 9 = .ok (.getfield 13, 3) := by decide +kernel
theorem dX10_errorAt_12 : decode cX10_errorAt 12 = .ok (.invokevirtual 90, 3) := by decide +kernel
theorem dX10_errorAt_15 : decode cX10_errorAt 15 = .ok (.ifnonnull 13, 3) := by decide +kernel
theorem dX10_errorAt_18 : decode cX10_errorAt 18 = .ok (.aload_n 0, 1) := by decide +kernel
theorem dX10_errorAt_19 : decode cX10_errorAt 19 = .ok (.getfield 53, 3) := by decide +kernel
theorem dX10_errorAt_22 : decode cX10_errorAt 22 = .ok (.invokevirtual 94, 3) := by decide +kernel
theorem dX10_errorAt_25 : decode cX10_errorAt 25 = .ok (.goto 4, 3) := by decide +kernel
theorem dX10_errorAt_28 : decode cX10_errorAt 28 = .ok (.iconst (-1), 1) := by decide +kernel
theorem dX10_errorAt_29 : decode cX10_errorAt 29 = .ok (.ireturn, 1) := by decide +kernel
def f_P_errorAt (F Z : Nat) (s : St)  : Option ((Int32 ⊕ Nat) × St) :=
  (f_Reader_read F Z s (gI s 1)).bind fun x1 => (if sz x1.2 ≤ Z then (if x1.1 = none then
    ((f_Reader_place F x1.2).bind fun x2 => (some (.inl x2.1, x2.2)))
  else
    (some (.inl (-1), x1.2))) else none)
set_option maxHeartbeats 1000000 in
theorem c_f_P_errorAt {F Z : Nat} {s : St}  {r : Int32 ⊕ Nat} {s' : St} (hf : f_P_errorAt F Z s  = some (r, s')) : CX true yX10_errorAt (Cond.code yX10_errorAt cX10_errorAt 1 (some .int)) (802) (16450) (Z - sz s) (12 * (Z - sz s)) (fun B => [.ref (B + 0)]) s (fun B => (ouI r)) s' (Z - sz s) (12 * (Z - sz s)) := by
  refine CX.ofX (fun B => [(0, .ref (B + 0))]) (by decide +kernel) (fun _ => rfl) (fun _ => (by simp [lg_sl, rfB_cat, catI, catL, catR])) (fun Γ D B X Y hr => ?_)
  have X : Cx Γ RX10 cX10_errorAt 1 D B (RM Γ B Z (802) (16450)) := X
  unfold f_P_errorAt at hf
  refine r_aload_n (x := some 0) (pc := 0) X dX10_errorAt_0 0 rfl ?_
  refine r_get (j := 8) (pc := 1) X ce_0 rfl inT10 (by decide) w_288 rfl dX10_errorAt_1 ?_
  refine r_aload_n (x := some 0) (pc := 4) X dX10_errorAt_4 0 rfl ?_
  refine r_get (j := 0) (pc := 5) X ce_0 rfl inT10 (by decide) w_280 rfl dX10_errorAt_5 ?_
  refine r_aload_n (x := some 0) (pc := 8) X dX10_errorAt_8 0 rfl ?_
  refine r_get (j := 1) (pc := 9) X ce_0 rfl inT10 (by decide) w_281 rfl dX10_errorAt_9 ?_
  refine bnd hf (fun x1 h1 hf => ?_)
  refine ifo hf (fun hz hf => ?_)
  refine z_callXVq (As := [.ref (B + 1), .int (gI s 1)]) (st := []) (pc := 12) X Y (c_f_Reader_read h1) rfl w_632 w_633 w_634 w_41 w_635 hdV_X4_read (Rc.s rfl ce_24) (by decide) hz (Nat.le_of_ble_eq_true rfl) dX10_errorAt_12 rfl ?_
  refine b_ifnonnull (tgt := 28) (pc := 15) X dX10_errorAt_15 (by decide) hf (fun hf => ?_) (fun hf => ?_)
  · refine r_aload_n (x := some 0) (pc := 18) X dX10_errorAt_18 0 rfl ?_
    refine r_get (j := 8) (pc := 19) X ce_0 rfl inT10 (by decide) w_288 rfl dX10_errorAt_19 ?_
    refine bnd hf (fun x2 h2 hf => ?_)
    refine z_callVi (As := []) (st := []) (pc := 22) X (c_f_Reader_place h2) rfl w_880 w_881 w_882 w_41 w_883 hdV_X4_place (Rc.s rfl ce_24) (by decide) (Nat.le_of_ble_eq_true rfl) dX10_errorAt_22 rfl ?_
    refine r_goto (tgt := 29) (pc := 25) X dX10_errorAt_25 (by decide) ?_
    exact x_iret (pc := 29) X hr hf dX10_errorAt_29
  · refine r_iconst (v := -1) (pc := 28) X dX10_errorAt_28 (by decide) ?_
    exact x_iret (pc := 29) X hr hf dX10_errorAt_29
/-! f_P_ask -/
theorem dX10_ask_0 : decode cX10_ask 0 = .ok (.iload_n 1, 1) := by decide +kernel
theorem dX10_ask_1 : decode cX10_ask 1 = .ok (.iload_n 2, 1) := by decide +kernel
theorem dX10_ask_2 : decode cX10_ask 2 = .ok (.iconst 0, 1) := by decide +kernel
theorem dX10_ask_3 : decode cX10_ask 3 = .ok (.aload_n 0, 1) := by decide +kernel
theorem dX10_ask_4 : decode cX10_ask 4 = .ok (.getfield 17, 3) := by decide +kernel
theorem dX10_ask_7 : decode cX10_ask 7 = .ok (.invokestatic 98, 3) := by decide +kernel
theorem dX10_ask_10 : decode cX10_ask 10 = .ok (.ifCond .ne 13, 3) := by decide +kernel
theorem dX10_ask_13 : decode cX10_ask 13 = .ok (.new 78, 3) := by decide +kernel
theorem dX10_ask_16 : decode cX10_ask 16 = .ok (.dup, 1) := by decide +kernel
theorem dX10_ask_17 : decode cX10_ask 17 = .ok (.ldc 102, 2) := by decide +kernel
theorem dX10_ask_19 : decode cX10_ask 19 = .ok (.invokespecial 82, 3) := by decide +kernel
theorem dX10_ask_22 : decode cX10_ask 22 = .ok (.athrow, 1) := by decide +kernel
theorem dX10_ask_23 : decode cX10_ask 23 = .ok (.aload_n 0, 1) := by decide +kernel
theorem dX10_ask_24 : decode cX10_ask 24 = .ok (.getfield 53, 3) := by decide +kernel
theorem dX10_ask_27 : decode cX10_ask 27 = .ok (.aload_n 0, 1) := by decide +kernel
theorem dX10_ask_28 : decode cX10_ask 28 = .ok (.getfield 9, 3) := by decide +kernel
theorem dX10_ask_31 : decode cX10_ask 31 = .ok (.aload_n 0, 1) := by decide +kernel
theorem dX10_ask_32 : decode cX10_ask 32 = .ok (.getfield 13, 3) := by decide +kernel
theorem dX10_ask_35 : decode cX10_ask 35 = .ok (.invokevirtual 90, 3) := by decide +kernel
theorem dX10_ask_38 : decode cX10_ask 38 = .ok (.astore_n 3, 1) := by decide +kernel
theorem dX10_ask_39 : decode cX10_ask 39 = .ok (.aload_n 3, 1) := by decide +kernel
theorem dX10_ask_40 : decode cX10_ask 40 = .ok (.ifnonnull 13, 3) := by decide +kernel
theorem dX10_ask_43 : decode cX10_ask 43 = .ok (.new 85, 3) := by decide +kernel
theorem dX10_ask_46 : decode cX10_ask 46 = .ok (.dup, 1) := by decide +kernel
theorem dX10_ask_47 : decode cX10_ask 47 = .ok (.ldc 104, 2) := by decide +kernel
theorem dX10_ask_49 : decode cX10_ask 49 = .ok (.invokespecial 89, 3) := by decide +kernel
theorem dX10_ask_52 : decode cX10_ask 52 = .ok (.athrow, 1) := by decide +kernel
theorem dX10_ask_53 : decode cX10_ask 53 = .ok (.aload_n 0, 1) := by decide +kernel
theorem dX10_ask_54 : decode cX10_ask 54 = .ok (.getfield 32, 3) := by decide +kernel
theorem dX10_ask_57 : decode cX10_ask 57 = .ok (.iload_n 1, 1) := by decide +kernel
theorem dX10_ask_58 : decode cX10_ask 58 = .ok (.iload_n 2, 1) := by decide +kernel
theorem dX10_ask_59 : decode cX10_ask 59 = .ok (.aload_n 0, 1) := by decide +kernel
theorem dX10_ask_60 : decode cX10_ask 60 = .ok (.getfield 17, 3) := by decide +kernel
theorem dX10_ask_63 : decode cX10_ask 63 = .ok (.invokevirtual 106, 3) := by decide +kernel
theorem dX10_ask_66 : decode cX10_ask 66 = .ok (.aload_n 0, 1) := by decide +kernel
theorem dX10_ask_67 : decode cX10_ask 67 = .ok (.getfield 67, 3) := by decide +kernel
theorem dX10_ask_70 : decode cX10_ask 70 = .ok (.aload_n 3, 1) := by decide +kernel
theorem dX10_ask_71 : decode cX10_ask 71 = .ok (.aload_n 0, 1) := by decide +kernel
theorem dX10_ask_72 : decode cX10_ask 72 = .ok (.getfield 32, 3) := by decide +kernel
theorem dX10_ask_75 : decode cX10_ask 75 = .ok (.invokevirtual 110, 3) := by decide +kernel
theorem dX10_ask_78 : decode cX10_ask 78 = .ok (.lreturn, 1) := by decide +kernel
def f_P_ask (F Z : Nat) (s : St) (p1 : Int32) (p2 : Int32) : Option ((Int64 ⊕ Nat) × St) :=
  (f_P_isRange F s p1 p2 0 (gI s 2)).bind fun x1 => (if x1.1 = 0 then
    (if sz x1.2 < Z then some (.inr 0, sz' x1.2 (sz x1.2 + 1)) else none)
  else
    ((f_Reader_read F Z x1.2 (gI x1.2 1)).bind fun x2 => (if sz x2.2 ≤ Z then (if x2.1 = none then
      (if sz x2.2 < Z then some (.inr 1, sz' x2.2 (sz x2.2 + 1)) else none)
    else
      ((f_Logs_pick F x2.2 p1 p2 (gI x2.2 2)).bind fun x3 => ((f_Walker_run F x3 x2.1).bind fun x4 => (some (.inl x4.1, x4.2))))) else none)))
set_option maxHeartbeats 1000000 in
theorem c_f_P_ask {F Z : Nat} {s : St} {p1 : Int32} {p2 : Int32} {r : Int64 ⊕ Nat} {s' : St} (hf : f_P_ask F Z s p1 p2 = some (r, s')) : CX true yX10_ask (Cond.code yX10_ask cX10_ask 4 (some .long)) (802) (16450) (Z - sz s) (12 * (Z - sz s)) (fun B => [.ref (B + 0), .int p1, .int p2]) s (fun B => (ouL r)) s' (Z - sz s) (12 * (Z - sz s)) := by
  refine CX.ofX (fun B => [(0, .ref (B + 0)), (1, .int p1), (2, .int p2)]) (by decide +kernel) (fun _ => rfl) (fun _ => (by simp [lg_sl, rfB_cat, catI, catL, catR])) (fun Γ D B X Y hr => ?_)
  have X : Cx Γ RX10 cX10_ask 4 D B (RM Γ B Z (802) (16450)) := X
  unfold f_P_ask at hf
  refine r_iload_n (pc := 0) X dX10_ask_0 1 rfl ?_
  refine r_iload_n (pc := 1) X dX10_ask_1 2 rfl ?_
  refine r_iconst (v := 0) (pc := 2) X dX10_ask_2 (by decide) ?_
  refine r_aload_n (x := some 0) (pc := 3) X dX10_ask_3 0 rfl ?_
  refine r_get (j := 2) (pc := 4) X ce_0 rfl inT10 (by decide) w_282 rfl dX10_ask_4 ?_
  refine bnd hf (fun x1 h1 hf => ?_)
  refine z_callSi (As := [.int p1, .int p2, .int 0, .int (gI s 2)]) (st := []) (pc := 7) X (c_f_P_isRange h1) rfl w_767 w_537 w_36 w_538 hdS_X10_isRange (by decide) (Nat.le_of_ble_eq_true rfl) dX10_ask_7 rfl ?_
  refine b_if_ne (tgt := 23) (pc := 10) X dX10_ask_10 (by decide) hf (fun hf => ?_) (fun hf => ?_)
  · exact x_throw (e := 0) (pc := 13) X Y (by decide +kernel) tnames_ok w_447 w_52 thr_0_82 (thg_0_82 _) str_102 rfl (by decide) (by decide) dX10_ask_13 dX10_ask_16 dX10_ask_17 dX10_ask_19 dX10_ask_22 hf
  · refine r_aload_n (x := some 0) (pc := 23) X dX10_ask_23 0 rfl ?_
    refine r_get (j := 8) (pc := 24) X ce_0 rfl inT10 (by decide) w_288 rfl dX10_ask_24 ?_
    refine r_aload_n (x := some 0) (pc := 27) X dX10_ask_27 0 rfl ?_
    refine r_get (j := 0) (pc := 28) X ce_0 rfl inT10 (by decide) w_280 rfl dX10_ask_28 ?_
    refine r_aload_n (x := some 0) (pc := 31) X dX10_ask_31 0 rfl ?_
    refine r_get (j := 1) (pc := 32) X ce_0 rfl inT10 (by decide) w_281 rfl dX10_ask_32 ?_
    refine bnd hf (fun x2 h2 hf => ?_)
    refine ifo hf (fun hz hf => ?_)
    refine z_callXVq (As := [.ref (B + 1), .int (gI x1.2 1)]) (st := []) (pc := 35) X Y (c_f_Reader_read h2) rfl w_632 w_633 w_634 w_41 w_635 hdV_X4_read (Rc.s rfl ce_24) (by decide) hz (Nat.le_of_ble_eq_true rfl) dX10_ask_35 rfl ?_
    refine r_astore_n (pc := 38) (lv' := [(0, .ref (B + 0)), (1, .int p1), (2, .int p2), (3, rfB B x2.1)]) X dX10_ask_38 (by decide) [1, 2, 3, 0] rfl ?_
    refine r_aload_n (pc := 39) X dX10_ask_39 3 rfl ?_
    refine b_ifnonnull (tgt := 53) (pc := 40) X dX10_ask_40 (by decide) hf (fun hf => ?_) (fun hf => ?_)
    · exact x_throw (e := 1) (pc := 43) X Y (by decide +kernel) tnames_ok w_463 w_53 thr_1_89 (thg_1_89 _) str_104 rfl (by decide) (by decide) dX10_ask_43 dX10_ask_46 dX10_ask_47 dX10_ask_49 dX10_ask_52 hf
    · refine r_aload_n (x := some 0) (pc := 53) X dX10_ask_53 0 rfl ?_
      refine r_get (j := 5) (pc := 54) X ce_0 rfl inT10 (by decide) w_285 rfl dX10_ask_54 ?_
      refine r_iload_n (pc := 57) X dX10_ask_57 1 rfl ?_
      refine r_iload_n (pc := 58) X dX10_ask_58 2 rfl ?_
      refine r_aload_n (x := some 0) (pc := 59) X dX10_ask_59 0 rfl ?_
      refine r_get (j := 2) (pc := 60) X ce_0 rfl inT10 (by decide) w_282 rfl dX10_ask_60 ?_
      refine bnd hf (fun x3 h3 hf => ?_)
      refine z_callVv (As := [.int p1, .int p2, .int (gI x2.2 2)]) (st := []) (pc := 63) X (c_f_Logs_pick h3) rfl w_532 w_533 w_534 w_37 w_535 hdV_X2_pick (Rc.s rfl ce_3) (by decide) (Nat.le_of_ble_eq_true rfl) dX10_ask_63 rfl ?_
      refine r_aload_n (x := some 0) (pc := 66) X dX10_ask_66 0 rfl ?_
      refine r_get (j := 10) (pc := 67) X ce_0 rfl inT10 (by decide) w_290 rfl dX10_ask_67 ?_
      refine r_aload_n (pc := 70) X dX10_ask_70 3 rfl ?_
      refine r_aload_n (x := some 0) (pc := 71) X dX10_ask_71 0 rfl ?_
      refine r_get (j := 5) (pc := 72) X ce_0 rfl inT10 (by decide) w_285 rfl dX10_ask_72 ?_
      refine bnd hf (fun x4 h4 hf => ?_)
      refine z_callVl (As := [rfB B x2.1, .ref (B + 3)]) (st := []) (pc := 75) X (c_f_Walker_run h4) rfl w_544 w_545 w_546 w_43 w_547 hdV_X9_run (Rc.s rfl ce_30) (by decide) (Nat.le_of_ble_eq_true rfl) dX10_ask_75 rfl ?_
      exact x_lret (pc := 78) X hr hf dX10_ask_78
/-! f_P_askByCodes -/
theorem dX10_askByCodes_0 : decode cX10_askByCodes 0 = .ok (.iload_n 1, 1) := by decide +kernel
theorem dX10_askByCodes_1 : decode cX10_askByCodes 1 = .ok (.iload_n 2, 1) := by decide +kernel
theorem dX10_askByCodes_2 : decode cX10_askByCodes 2 = .ok (.iconst 0, 1) := by decide +kernel
theorem dX10_askByCodes_3 : decode cX10_askByCodes 3 = .ok (.aload_n 0, 1) := by decide +kernel
theorem dX10_askByCodes_4 : decode cX10_askByCodes 4 = .ok (.getfield 17, 3) := by decide +kernel
theorem dX10_askByCodes_7 : decode cX10_askByCodes 7 = .ok (.invokestatic 98, 3) := by decide +kernel
theorem dX10_askByCodes_10 : decode cX10_askByCodes 10 = .ok (.ifCond .ne 13, 3) := by decide +kernel
theorem dX10_askByCodes_13 : decode cX10_askByCodes 13 = .ok (.new 78, 3) := by decide +kernel
theorem dX10_askByCodes_16 : decode cX10_askByCodes 16 = .ok (.dup, 1) := by decide +kernel
theorem dX10_askByCodes_17 : decode cX10_askByCodes 17 = .ok (.ldc 102, 2) := by decide +kernel
theorem dX10_askByCodes_19 : decode cX10_askByCodes 19 = .ok (.invokespecial 82, 3) := by decide +kernel
theorem dX10_askByCodes_22 : decode cX10_askByCodes 22 = .ok (.athrow, 1) := by decide +kernel
theorem dX10_askByCodes_23 : decode cX10_askByCodes 23 = .ok (.aload_n 0, 1) := by decide +kernel
theorem dX10_askByCodes_24 : decode cX10_askByCodes 24 = .ok (.getfield 53, 3) := by decide +kernel
theorem dX10_askByCodes_27 : decode cX10_askByCodes 27 = .ok (.aload_n 0, 1) := by decide +kernel
theorem dX10_askByCodes_28 : decode cX10_askByCodes 28 = .ok (.getfield 9, 3) := by decide +kernel
theorem dX10_askByCodes_31 : decode cX10_askByCodes 31 = .ok (.aload_n 0, 1) := by decide +kernel
theorem dX10_askByCodes_32 : decode cX10_askByCodes 32 = .ok (.getfield 13, 3) := by decide +kernel
theorem dX10_askByCodes_35 : decode cX10_askByCodes 35 = .ok (.invokevirtual 90, 3) := by decide +kernel
theorem dX10_askByCodes_38 : decode cX10_askByCodes 38 = .ok (.ifnonnull 13, 3) := by decide +kernel
theorem dX10_askByCodes_41 : decode cX10_askByCodes 41 = .ok (.new 85, 3) := by decide +kernel
theorem dX10_askByCodes_44 : decode cX10_askByCodes 44 = .ok (.dup, 1) := by decide +kernel
theorem dX10_askByCodes_45 : decode cX10_askByCodes 45 = .ok (.ldc 104, 2) := by decide +kernel
theorem dX10_askByCodes_47 : decode cX10_askByCodes 47 = .ok (.invokespecial 89, 3) := by decide +kernel
theorem dX10_askByCodes_50 : decode cX10_askByCodes 50 = .ok (.athrow, 1) := by decide +kernel
theorem dX10_askByCodes_51 : decode cX10_askByCodes 51 = .ok (.aload_n 0, 1) := by decide +kernel
theorem dX10_askByCodes_52 : decode cX10_askByCodes 52 = .ok (.getfield 60, 3) := by decide +kernel
theorem dX10_askByCodes_55 : decode cX10_askByCodes 55 = .ok (.aload_n 0, 1) := by decide +kernel
theorem dX10_askByCodes_56 : decode cX10_askByCodes 56 = .ok (.getfield 9, 3) := by decide +kernel
theorem dX10_askByCodes_59 : decode cX10_askByCodes 59 = .ok (.aload_n 0, 1) := by decide +kernel
theorem dX10_askByCodes_60 : decode cX10_askByCodes 60 = .ok (.getfield 13, 3) := by decide +kernel
theorem dX10_askByCodes_63 : decode cX10_askByCodes 63 = .ok (.invokevirtual 114, 3) := by decide +kernel
theorem dX10_askByCodes_66 : decode cX10_askByCodes 66 = .ok (.aload_n 0, 1) := by decide +kernel
theorem dX10_askByCodes_67 : decode cX10_askByCodes 67 = .ok (.getfield 32, 3) := by decide +kernel
theorem dX10_askByCodes_70 : decode cX10_askByCodes 70 = .ok (.iload_n 1, 1) := by decide +kernel
theorem dX10_askByCodes_71 : decode cX10_askByCodes 71 = .ok (.iload_n 2, 1) := by decide +kernel
theorem dX10_askByCodes_72 : decode cX10_askByCodes 72 = .ok (.aload_n 0, 1) := by decide +kernel
theorem dX10_askByCodes_73 : decode cX10_askByCodes 73 = .ok (.getfield 17, 3) := by decide +kernel
theorem dX10_askByCodes_76 : decode cX10_askByCodes 76 = .ok (.invokevirtual 106, 3) := by decide +kernel
theorem dX10_askByCodes_79 : decode cX10_askByCodes 79 = .ok (.aload_n 0, 1) := by decide +kernel
theorem dX10_askByCodes_80 : decode cX10_askByCodes 80 = .ok (.getfield 74, 3) := by decide +kernel
theorem dX10_askByCodes_83 : decode cX10_askByCodes 83 = .ok (.aload_n 0, 1) := by decide +kernel
theorem dX10_askByCodes_84 : decode cX10_askByCodes 84 = .ok (.getfield 60, 3) := by decide +kernel
theorem dX10_askByCodes_87 : decode cX10_askByCodes 87 = .ok (.getfield 118, 3) := by decide +kernel
theorem dX10_askByCodes_90 : decode cX10_askByCodes 90 = .ok (.aload_n 0, 1) := by decide +kernel
theorem dX10_askByCodes_91 : decode cX10_askByCodes 91 = .ok (.getfield 60, 3) := by decide +kernel
theorem dX10_askByCodes_94 : decode cX10_askByCodes 94 = .ok (.getfield 122, 3) := by decide +kernel
theorem dX10_askByCodes_97 : decode cX10_askByCodes 97 = .ok (.aload_n 0, 1) := by decide +kernel
theorem dX10_askByCodes_98 : decode cX10_askByCodes 98 = .ok (.getfield 32, 3) := by decide +kernel
theorem dX10_askByCodes_101 : decode cX10_askByCodes 101 = .ok (.invokevirtual 125, 3) := by decide +kernel
theorem dX10_askByCodes_104 : decode cX10_askByCodes 104 = .ok (.lreturn, 1) := by decide +kernel
def f_P_askByCodes (F Z : Nat) (s : St) (p1 : Int32) (p2 : Int32) : Option ((Int64 ⊕ Nat) × St) :=
  (f_P_isRange F s p1 p2 0 (gI s 2)).bind fun x1 => (if x1.1 = 0 then
    (if sz x1.2 < Z then some (.inr 0, sz' x1.2 (sz x1.2 + 1)) else none)
  else
    ((f_Reader_read F Z x1.2 (gI x1.2 1)).bind fun x2 => (if sz x2.2 ≤ Z then (if x2.1 = none then
      (if sz x2.2 < Z then some (.inr 1, sz' x2.2 (sz x2.2 + 1)) else none)
    else
      ((f_Coder_turn F x2.2 (gI x2.2 1)).bind fun x3 => ((f_Logs_pick F x3 p1 p2 (gI x3 2)).bind fun x4 => ((f_Runner_run F x4 (gI x4 1665)).bind fun x5 => (some (.inl x5.1, x5.2)))))) else none)))
set_option maxHeartbeats 1000000 in
theorem c_f_P_askByCodes {F Z : Nat} {s : St} {p1 : Int32} {p2 : Int32} {r : Int64 ⊕ Nat} {s' : St} (hf : f_P_askByCodes F Z s p1 p2 = some (r, s')) : CX true yX10_askByCodes (Cond.code yX10_askByCodes cX10_askByCodes 3 (some .long)) (802) (16450) (Z - sz s) (12 * (Z - sz s)) (fun B => [.ref (B + 0), .int p1, .int p2]) s (fun B => (ouL r)) s' (Z - sz s) (12 * (Z - sz s)) := by
  refine CX.ofX (fun B => [(0, .ref (B + 0)), (1, .int p1), (2, .int p2)]) (by decide +kernel) (fun _ => rfl) (fun _ => (by simp [lg_sl, rfB_cat, catI, catL, catR])) (fun Γ D B X Y hr => ?_)
  have X : Cx Γ RX10 cX10_askByCodes 3 D B (RM Γ B Z (802) (16450)) := X
  unfold f_P_askByCodes at hf
  refine r_iload_n (pc := 0) X dX10_askByCodes_0 1 rfl ?_
  refine r_iload_n (pc := 1) X dX10_askByCodes_1 2 rfl ?_
  refine r_iconst (v := 0) (pc := 2) X dX10_askByCodes_2 (by decide) ?_
  refine r_aload_n (x := some 0) (pc := 3) X dX10_askByCodes_3 0 rfl ?_
  refine r_get (j := 2) (pc := 4) X ce_0 rfl inT10 (by decide) w_282 rfl dX10_askByCodes_4 ?_
  refine bnd hf (fun x1 h1 hf => ?_)
  refine z_callSi (As := [.int p1, .int p2, .int 0, .int (gI s 2)]) (st := []) (pc := 7) X (c_f_P_isRange h1) rfl w_767 w_537 w_36 w_538 hdS_X10_isRange (by decide) (Nat.le_of_ble_eq_true rfl) dX10_askByCodes_7 rfl ?_
  refine b_if_ne (tgt := 23) (pc := 10) X dX10_askByCodes_10 (by decide) hf (fun hf => ?_) (fun hf => ?_)
  · exact x_throw (e := 0) (pc := 13) X Y (by decide +kernel) tnames_ok w_447 w_52 thr_0_82 (thg_0_82 _) str_102 rfl (by decide) (by decide) dX10_askByCodes_13 dX10_askByCodes_16 dX10_askByCodes_17 dX10_askByCodes_19 dX10_askByCodes_22 hf
  · refine r_aload_n (x := some 0) (pc := 23) X dX10_askByCodes_23 0 rfl ?_
    refine r_get (j := 8) (pc := 24) X ce_0 rfl inT10 (by decide) w_288 rfl dX10_askByCodes_24 ?_
    refine r_aload_n (x := some 0) (pc := 27) X dX10_askByCodes_27 0 rfl ?_
    refine r_get (j := 0) (pc := 28) X ce_0 rfl inT10 (by decide) w_280 rfl dX10_askByCodes_28 ?_
    refine r_aload_n (x := some 0) (pc := 31) X dX10_askByCodes_31 0 rfl ?_
    refine r_get (j := 1) (pc := 32) X ce_0 rfl inT10 (by decide) w_281 rfl dX10_askByCodes_32 ?_
    refine bnd hf (fun x2 h2 hf => ?_)
    refine ifo hf (fun hz hf => ?_)
    refine z_callXVq (As := [.ref (B + 1), .int (gI x1.2 1)]) (st := []) (pc := 35) X Y (c_f_Reader_read h2) rfl w_632 w_633 w_634 w_41 w_635 hdV_X4_read (Rc.s rfl ce_24) (by decide) hz (Nat.le_of_ble_eq_true rfl) dX10_askByCodes_35 rfl ?_
    refine b_ifnonnull (tgt := 51) (pc := 38) X dX10_askByCodes_38 (by decide) hf (fun hf => ?_) (fun hf => ?_)
    · exact x_throw (e := 1) (pc := 41) X Y (by decide +kernel) tnames_ok w_463 w_53 thr_1_89 (thg_1_89 _) str_104 rfl (by decide) (by decide) dX10_askByCodes_41 dX10_askByCodes_44 dX10_askByCodes_45 dX10_askByCodes_47 dX10_askByCodes_50 hf
    · refine r_aload_n (x := some 0) (pc := 51) X dX10_askByCodes_51 0 rfl ?_
      refine r_get (j := 9) (pc := 52) X ce_0 rfl inT10 (by decide) w_289 rfl dX10_askByCodes_52 ?_
      refine r_aload_n (x := some 0) (pc := 55) X dX10_askByCodes_55 0 rfl ?_
      refine r_get (j := 0) (pc := 56) X ce_0 rfl inT10 (by decide) w_280 rfl dX10_askByCodes_56 ?_
      refine r_aload_n (x := some 0) (pc := 59) X dX10_askByCodes_59 0 rfl ?_
      refine r_get (j := 1) (pc := 60) X ce_0 rfl inT10 (by decide) w_281 rfl dX10_askByCodes_60 ?_
      refine bnd hf (fun x3 h3 hf => ?_)
      refine z_callVv (As := [.ref (B + 1), .int (gI x2.2 1)]) (st := []) (pc := 63) X (c_f_Coder_turn h3) rfl w_894 w_895 w_896 w_42 w_897 hdV_X1_turn (Rc.s rfl ce_26) (by decide) (Nat.le_of_ble_eq_true rfl) dX10_askByCodes_63 rfl ?_
      refine r_aload_n (x := some 0) (pc := 66) X dX10_askByCodes_66 0 rfl ?_
      refine r_get (j := 5) (pc := 67) X ce_0 rfl inT10 (by decide) w_285 rfl dX10_askByCodes_67 ?_
      refine r_iload_n (pc := 70) X dX10_askByCodes_70 1 rfl ?_
      refine r_iload_n (pc := 71) X dX10_askByCodes_71 2 rfl ?_
      refine r_aload_n (x := some 0) (pc := 72) X dX10_askByCodes_72 0 rfl ?_
      refine r_get (j := 2) (pc := 73) X ce_0 rfl inT10 (by decide) w_282 rfl dX10_askByCodes_73 ?_
      refine bnd hf (fun x4 h4 hf => ?_)
      refine z_callVv (As := [.int p1, .int p2, .int (gI x3 2)]) (st := []) (pc := 76) X (c_f_Logs_pick h4) rfl w_532 w_533 w_534 w_37 w_535 hdV_X2_pick (Rc.s rfl ce_3) (by decide) (Nat.le_of_ble_eq_true rfl) dX10_askByCodes_76 rfl ?_
      refine r_aload_n (x := some 0) (pc := 79) X dX10_askByCodes_79 0 rfl ?_
      refine r_get (j := 11) (pc := 80) X ce_0 rfl inT10 (by decide) w_291 rfl dX10_askByCodes_80 ?_
      refine r_aload_n (x := some 0) (pc := 83) X dX10_askByCodes_83 0 rfl ?_
      refine r_get (j := 9) (pc := 84) X ce_0 rfl inT10 (by decide) w_289 rfl dX10_askByCodes_84 ?_
      refine r_get (j := 0) (pc := 87) X ce_26 rfl inT1 (by decide) w_203 rfl dX10_askByCodes_87 ?_
      refine r_aload_n (x := some 0) (pc := 90) X dX10_askByCodes_90 0 rfl ?_
      refine r_get (j := 9) (pc := 91) X ce_0 rfl inT10 (by decide) w_289 rfl dX10_askByCodes_91 ?_
      refine r_get (j := 1) (pc := 94) X ce_26 rfl inT1 (by decide) w_205 rfl dX10_askByCodes_94 ?_
      refine r_aload_n (x := some 0) (pc := 97) X dX10_askByCodes_97 0 rfl ?_
      refine r_get (j := 5) (pc := 98) X ce_0 rfl inT10 (by decide) w_285 rfl dX10_askByCodes_98 ?_
      refine bnd hf (fun x5 h5 hf => ?_)
      refine z_callVl (As := [.ref (B + 27), .int (gI x4 1665), .ref (B + 3)]) (st := []) (pc := 101) X (c_f_Runner_run h5) rfl w_938 w_939 w_940 w_45 w_941 hdV_X7_run (Rc.s rfl ce_34) (by decide) (Nat.le_of_ble_eq_true rfl) dX10_askByCodes_101 rfl ?_
      exact x_lret (pc := 104) X hr hf dX10_askByCodes_104
/-! f_P_isDue -/
theorem dX10_isDue_0 : decode cX10_isDue 0 = .ok (.aload_n 1, 1) := by decide +kernel
theorem dX10_isDue_1 : decode cX10_isDue 1 = .ok (.iload_n 2, 1) := by decide +kernel
theorem dX10_isDue_2 : decode cX10_isDue 2 = .ok (.iload_n 3, 1) := by decide +kernel
theorem dX10_isDue_3 : decode cX10_isDue 3 = .ok (.invokevirtual 311, 3) := by decide +kernel
theorem dX10_isDue_6 : decode cX10_isDue 6 = .ok (.ifCond .eq 11, 3) := by decide +kernel
theorem dX10_isDue_9 : decode cX10_isDue 9 = .ok (.aload_n 1, 1) := by decide +kernel
theorem dX10_isDue_10 : decode cX10_isDue 10 = .ok (.iload_n 2, 1) := by decide +kernel
theorem dX10_isDue_11 : decode cX10_isDue 11 = .ok (.invokevirtual 314, 3) := by decide +kernel
theorem dX10_isDue_14 : decode cX10_isDue 14 = .ok (.ifCond .eq 5, 3) := by decide +kernel
theorem dX10_isDue_17 : decode cX10_isDue 17 = .ok (.iconst 0, 1) := by decide +kernel
theorem dX10_isDue_18 : decode cX10_isDue 18 = .ok (.ireturn, 1) := by decide +kernel
theorem dX10_isDue_19 : decode cX10_isDue 19 = .ok (.aload_n 0, 1) := by decide +kernel
theorem dX10_isDue_20 : decode cX10_isDue 20 = .ok (.aload_n 1, 1) := by decide +kernel
theorem dX10_isDue_21 : decode cX10_isDue 21 = .ok (.iload_n 2, 1) := by decide +kernel
theorem dX10_isDue_22 : decode cX10_isDue 22 = .ok (.iload_n 2, 1) := by decide +kernel
theorem dX10_isDue_23 : decode cX10_isDue 23 = .ok (.iconst 1, 1) := by decide +kernel
theorem dX10_isDue_24 : decode cX10_isDue 24 = .ok (.isub, 1) := by decide +kernel
theorem dX10_isDue_25 : decode cX10_isDue 25 = .ok (.invokevirtual 239, 3) := by decide +kernel
theorem dX10_isDue_28 : decode cX10_isDue 28 = .ok (.aload_n 0, 1) := by decide +kernel
theorem dX10_isDue_29 : decode cX10_isDue 29 = .ok (.getfield 67, 3) := by decide +kernel
theorem dX10_isDue_32 : decode cX10_isDue 32 = .ok (.aload_n 1, 1) := by decide +kernel
theorem dX10_isDue_33 : decode cX10_isDue 33 = .ok (.getfield 296, 3) := by decide +kernel
theorem dX10_isDue_36 : decode cX10_isDue 36 = .ok (.aload_n 0, 1) := by decide +kernel
theorem dX10_isDue_37 : decode cX10_isDue 37 = .ok (.getfield 32, 3) := by decide +kernel
theorem dX10_isDue_40 : decode cX10_isDue 40 = .ok (.invokevirtual 110, 3) := by decide +kernel
theorem dX10_isDue_43 : decode cX10_isDue 43 = .ok (.lconst 0, 1) := by decide +kernel
theorem dX10_isDue_44 : decode cX10_isDue 44 = .ok (.lcmp, 1) := by decide +kernel
theorem dX10_isDue_45 : decode cX10_isDue 45 = .ok (.ifCond .eq 7, 3) := by decide +kernel
theorem dX10_isDue_48 : decode cX10_isDue 48 = .ok (.iconst 1, 1) := by decide +kernel
theorem dX10_isDue_49 : decode cX10_isDue 49 = .ok (.goto 4, 3) := by decide +kernel
theorem dX10_isDue_52 : decode cX10_isDue 52 = .ok (.iconst 0, 1) := by decide +kernel
theorem dX10_isDue_53 : decode cX10_isDue 53 = .ok (.ireturn, 1) := by decide +kernel
def f_P_isDue (F : Nat) (s : St) (p1 : Option Nat) (p2 : Int32) (p3 : Int32) : Option (Int32 × St) :=
  (dgo s p1 6).bind fun _ => ((f_Rule_hasRested F s p1 p2 p3).bind fun x1 => (if x1.1 = 0 then
    (some (0, x1.2))
  else
    ((dgo x1.2 p1 6).bind fun _ => ((f_Rule_isSilentIn F x1.2 p1 p2).bind fun x2 => (if x2.1 = 0 then
      ((f_P_pickWindow F x2.2 p1 p2 (p2 - 1)).bind fun x3 => ((dgo x3 p1 6).bind fun o4 => ((f_Walker_run F x3 (o4.2.2.1 0)).bind fun x5 => (if x5.1 = 0 then
        (some (0, x5.2))
      else
        (some (1, x5.2))))))
    else
      (some (0, x2.2)))))))
set_option maxHeartbeats 1000000 in
theorem c_f_P_isDue {F : Nat} {s : St} {p1 : Option Nat} {p2 : Int32} {p3 : Int32} {r : Int32} {s' : St} (hf : f_P_isDue F s p1 p2 p3 = some (r, s')) : CC true yX10_isDue (Cond.code yX10_isDue cX10_isDue 4 (some .boolean)) (202) (4646) (fun B => [.ref (B + 0), rfB B p1, .int p2, .int p3]) s (fun B => (some (.int r))) s' 0 0 := by
  refine CC.of (fun B => [(0, .ref (B + 0)), (1, rfB B p1), (2, .int p2), (3, .int p3)]) (by decide +kernel) (fun _ => (by simp [lv_args, rfB_cat, catI, catL, catR])) (fun _ => (by simp [lg_sl, rfB_cat, catI, catL, catR])) (fun Γ D B X hr hin => ?_)
  have X : Cx Γ RX10 cX10_isDue 4 D B { frames := 202, cells := 0, slots := 0, locals := 4646 } := X
  unfold f_P_isDue at hf
  refine r_aload_n (pc := 0) X dX10_isDue_0 1 rfl ?_
  refine r_iload_n (pc := 1) X dX10_isDue_1 2 rfl ?_
  refine r_iload_n (pc := 2) X dX10_isDue_2 3 rfl ?_
  refine b_recv (w := true) (B := B) (D := D) rfl hf (fun a hx hrc hf => ?_)
  refine bnd hf (fun x1 h1 hf => ?_)
  refine r_callVi (As := [.int p2, .int p3]) (st := []) (pc := 3) X (c_f_Rule_hasRested h1) (by rw [hx]; rfl) w_518 w_519 w_520 w_54 w_521 hdV_X6_hasRested hrc (by decide) (by decide) (by decide) (Nat.le_of_ble_eq_true rfl) dX10_isDue_3 (by rw [hx]; rfl) ?_
  refine b_if_eq (tgt := 17) (pc := 6) X dX10_isDue_6 (by decide) hf (fun hf => ?_) (fun hf => ?_)
  · refine r_iconst (v := 0) (pc := 17) X dX10_isDue_17 (by decide) ?_
    exact e_zret (pc := 18) X hr (by decide) hf (Nat.le_refl _) (Nat.le_refl _) dX10_isDue_18
  · refine r_aload_n (pc := 9) X dX10_isDue_9 1 rfl ?_
    refine r_iload_n (pc := 10) X dX10_isDue_10 2 rfl ?_
    refine b_recv (w := true) (B := B) (D := D) rfl hf (fun a hx hrc hf => ?_)
    refine bnd hf (fun x2 h2 hf => ?_)
    refine r_callVi (As := [.int p2]) (st := []) (pc := 11) X (c_f_Rule_isSilentIn h2) (by rw [hx]; rfl) w_522 w_523 w_524 w_54 w_525 hdV_X6_isSilentIn hrc (by decide) (by decide) (by decide) (Nat.le_of_ble_eq_true rfl) dX10_isDue_11 (by rw [hx]; rfl) ?_
    refine b_if_eq (tgt := 19) (pc := 14) X dX10_isDue_14 (by decide) hf (fun hf => ?_) (fun hf => ?_)
    · refine r_aload_n (x := some 0) (pc := 19) X dX10_isDue_19 0 rfl ?_
      refine r_aload_n (pc := 20) X dX10_isDue_20 1 rfl ?_
      refine r_iload_n (pc := 21) X dX10_isDue_21 2 rfl ?_
      refine r_iload_n (pc := 22) X dX10_isDue_22 2 rfl ?_
      refine r_iconst (v := 1) (pc := 23) X dX10_isDue_23 (by decide) ?_
      refine r_isub (pc := 24) X dX10_isDue_24 ?_
      refine bnd hf (fun x3 h3 hf => ?_)
      refine r_callVv (As := [rfB B p1, .int p2, .int (p2 - 1)]) (st := []) (pc := 25) X (c_f_P_pickWindow h3) rfl w_527 w_529 w_7 w_36 w_530 hdV_X10_pickWindow (Rc.s rfl ce_0) (by decide) (by decide) (by decide) (Nat.le_of_ble_eq_true rfl) dX10_isDue_25 rfl ?_
      refine r_aload_n (x := some 0) (pc := 28) X dX10_isDue_28 0 rfl ?_
      refine r_get (j := 10) (pc := 29) X ce_0 rfl inT10 (by decide) w_290 rfl dX10_isDue_29 ?_
      refine r_aload_n (pc := 32) X dX10_isDue_32 1 rfl ?_
      refine b_dgetR (j := 0) (pc := 33) X rfl inT6 (by decide) w_717 rfl dX10_isDue_33 hf (fun o4 hf => ?_)
      refine r_aload_n (x := some 0) (pc := 36) X dX10_isDue_36 0 rfl ?_
      refine r_get (j := 5) (pc := 37) X ce_0 rfl inT10 (by decide) w_285 rfl dX10_isDue_37 ?_
      refine bnd hf (fun x5 h5 hf => ?_)
      refine r_callVl (As := [rfB B (o4.2.2.1 0), .ref (B + 3)]) (st := []) (pc := 40) X (c_f_Walker_run h5) rfl w_544 w_545 w_546 w_43 w_547 hdV_X9_run (Rc.s rfl ce_30) (by decide) (by decide) (by decide) (Nat.le_of_ble_eq_true rfl) dX10_isDue_40 rfl ?_
      refine r_lconst (v := 0) (pc := 43) X dX10_isDue_43 (by decide) ?_
      refine b_lcmp_eq (tgt := 52) (pc := 44) X dX10_isDue_44 dX10_isDue_45 (by decide) hf (fun hf => ?_) (fun hf => ?_)
      · refine r_iconst (v := 0) (pc := 52) X dX10_isDue_52 (by decide) ?_
        exact e_zret (pc := 53) X hr (by decide) hf (Nat.le_refl _) (Nat.le_refl _) dX10_isDue_53
      · refine r_iconst (v := 1) (pc := 48) X dX10_isDue_48 (by decide) ?_
        refine r_goto (tgt := 53) (pc := 49) X dX10_isDue_49 (by decide) ?_
        exact e_zret (pc := 53) X hr (by decide) hf (Nat.le_refl _) (Nat.le_refl _) dX10_isDue_53
    · refine r_iconst (v := 0) (pc := 17) X dX10_isDue_17 (by decide) ?_
      exact e_zret (pc := 18) X hr (by decide) hf (Nat.le_refl _) (Nat.le_refl _) dX10_isDue_18
/-! f_P_comeHour -/
theorem dX10_comeHour_0 : decode cX10_comeHour 0 = .ok (.aload_n 0, 1) := by decide +kernel
theorem dX10_comeHour_1 : decode cX10_comeHour 1 = .ok (.dup, 1) := by decide +kernel
theorem dX10_comeHour_2 : decode cX10_comeHour 2 = .ok (.getfield 17, 3) := by decide +kernel
theorem dX10_comeHour_5 : decode cX10_comeHour 5 = .ok (.iconst 1, 1) := by decide +kernel
theorem dX10_comeHour_6 : decode cX10_comeHour 6 = .ok (.iadd, 1) := by decide +kernel
theorem dX10_comeHour_7 : decode cX10_comeHour 7 = .ok (.putfield 17, 3) := by decide +kernel
theorem dX10_comeHour_10 : decode cX10_comeHour 10 = .ok (.aload_n 0, 1) := by decide +kernel
theorem dX10_comeHour_11 : decode cX10_comeHour 11 = .ok (.getfield 17, 3) := by decide +kernel
theorem dX10_comeHour_14 : decode cX10_comeHour 14 = .ok (.bipush 8, 2) := by decide +kernel
theorem dX10_comeHour_16 : decode cX10_comeHour 16 = .ok (.idiv, 1) := by decide +kernel
theorem dX10_comeHour_17 : decode cX10_comeHour 17 = .ok (.istore_n 1, 1) := by decide +kernel
theorem dX10_comeHour_18 : decode cX10_comeHour 18 = .ok (.aload_n 0, 1) := by decide +kernel
theorem dX10_comeHour_19 : decode cX10_comeHour 19 = .ok (.getfield 17, 3) := by decide +kernel
theorem dX10_comeHour_22 : decode cX10_comeHour 22 = .ok (.bipush 8, 2) := by decide +kernel
theorem dX10_comeHour_24 : decode cX10_comeHour 24 = .ok (.irem, 1) := by decide +kernel
theorem dX10_comeHour_25 : decode cX10_comeHour 25 = .ok (.ifCond .ne 30, 3) := by decide +kernel
theorem dX10_comeHour_28 : decode cX10_comeHour 28 = .ok (.aload_n 0, 1) := by decide +kernel
theorem dX10_comeHour_29 : decode cX10_comeHour 29 = .ok (.getfield 39, 3) := by decide +kernel
theorem dX10_comeHour_32 : decode cX10_comeHour 32 = .ok (.iload_n 1, 1) := by decide +kernel
theorem dX10_comeHour_33 : decode cX10_comeHour 33 = .ok (.invokevirtual 300, 3) := by decide +kernel
theorem dX10_comeHour_36 : decode cX10_comeHour 36 = .ok (.aload_n 0, 1) := by decide +kernel
theorem dX10_comeHour_37 : decode cX10_comeHour 37 = .ok (.getfield 46, 3) := by decide +kernel
theorem dX10_comeHour_40 : decode cX10_comeHour 40 = .ok (.aload_n 0, 1) := by decide +kernel
theorem dX10_comeHour_41 : decode cX10_comeHour 41 = .ok (.getfield 39, 3) := by decide +kernel
theorem dX10_comeHour_44 : decode cX10_comeHour 44 = .ok (.iload_n 1, 1) := by decide +kernel
theorem dX10_comeHour_45 : decode cX10_comeHour 45 = .ok (.invokevirtual 196, 3) := by decide +kernel
theorem dX10_comeHour_48 : decode cX10_comeHour 48 = .ok (.aload_n 0, 1) := by decide +kernel
theorem dX10_comeHour_49 : decode cX10_comeHour 49 = .ok (.getfield 17, 3) := by decide +kernel
theorem dX10_comeHour_52 : decode cX10_comeHour 52 = .ok (.invokevirtual 303, 3) := by decide +kernel
theorem dX10_comeHour_55 : decode cX10_comeHour 55 = .ok (.iconst 0, 1) := by decide +kernel
theorem dX10_comeHour_56 : decode cX10_comeHour 56 = .ok (.istore_n 2, 1) := by decide +kernel
theorem dX10_comeHour_57 : decode cX10_comeHour 57 = .ok (.iload_n 2, 1) := by decide +kernel
theorem dX10_comeHour_58 : decode cX10_comeHour 58 = .ok (.aload_n 0, 1) := by decide +kernel
theorem dX10_comeHour_59 : decode cX10_comeHour 59 = .ok (.getfield 26, 3) := by decide +kernel
theorem dX10_comeHour_62 : decode cX10_comeHour 62 = .ok (.if_icmp .ge 91, 3) := by decide +kernel
theorem dX10_comeHour_65 : decode cX10_comeHour 65 = .ok (.aload_n 0, 1) := by decide +kernel
theorem dX10_comeHour_66 : decode cX10_comeHour 66 = .ok (.iload_n 2, 1) := by decide +kernel
theorem dX10_comeHour_67 : decode cX10_comeHour 67 = .ok (.invokevirtual 213, 3) := by decide +kernel
theorem dX10_comeHour_70 : decode cX10_comeHour 70 = .ok (.astore_n 3, 1) := by decide +kernel
theorem dX10_comeHour_71 : decode cX10_comeHour 71 = .ok (.aload_n 3, 1) := by decide +kernel
theorem dX10_comeHour_72 : decode cX10_comeHour 72 = .ok (.ifnull 75, 3) := by decide +kernel
theorem dX10_comeHour_75 : decode cX10_comeHour 75 = .ok (.aload_n 3, 1) := by decide +kernel
theorem dX10_comeHour_76 : decode cX10_comeHour 76 = .ok (.invokevirtual 219, 3) := by decide +kernel
theorem dX10_comeHour_79 : decode cX10_comeHour 79 = .ok (.ifCond .ne 68, 3) := by decide +kernel
theorem dX10_comeHour_82 : decode cX10_comeHour 82 = .ok (.aload_n 0, 1) := by decide +kernel
theorem dX10_comeHour_83 : decode cX10_comeHour 83 = .ok (.aload_n 3, 1) := by decide +kernel
theorem dX10_comeHour_84 : decode cX10_comeHour 84 = .ok (.aload_n 0, 1) := by decide +kernel
theorem dX10_comeHour_85 : decode cX10_comeHour 85 = .ok (.getfield 17, 3) := by decide +kernel
theorem dX10_comeHour_88 : decode cX10_comeHour 88 = .ok (.aload_n 3, 1) := by decide +kernel
theorem dX10_comeHour_89 : decode cX10_comeHour 89 = .ok (.getfield 306, 3) := by decide +kernel
theorem dX10_comeHour_92 : decode cX10_comeHour 92 = .ok (.invokevirtual 249, 3) := by decide +kernel
theorem dX10_comeHour_95 : decode cX10_comeHour 95 = .ok (.ifCond .eq 52, 3) := by decide +kernel
theorem dX10_comeHour_98 : decode cX10_comeHour 98 = .ok (.aload_n 3, 1) := by decide +kernel
theorem dX10_comeHour_99 : decode cX10_comeHour 99 = .ok (.aload_n 0, 1) := by decide +kernel
theorem dX10_comeHour_100 : decode cX10_comeHour 100 = .ok (.getfield 17, 3) := by decide +kernel
theorem dX10_comeHour_103 : decode cX10_comeHour 103 = .ok (.putfield 306, 3) := by decide +kernel
theorem dX10_comeHour_106 : decode cX10_comeHour 106 = .ok (.aload_n 3, 1) := by decide +kernel
theorem dX10_comeHour_107 : decode cX10_comeHour 107 = .ok (.dup, 1) := by decide +kernel
theorem dX10_comeHour_108 : decode cX10_comeHour 108 = .ok (.getfield 228, 3) := by decide +kernel
theorem dX10_comeHour_111 : decode cX10_comeHour 111 = .ok (.iconst 1, 1) := by decide +kernel
theorem dX10_comeHour_112 : decode cX10_comeHour 112 = .ok (.iadd, 1) := by decide +kernel
theorem dX10_comeHour_113 : decode cX10_comeHour 113 = .ok (.putfield 228, 3) := by decide +kernel
theorem dX10_comeHour_116 : decode cX10_comeHour 116 = .ok (.aload_n 0, 1) := by decide +kernel
theorem dX10_comeHour_117 : decode cX10_comeHour 117 = .ok (.getfield 46, 3) := by decide +kernel
theorem dX10_comeHour_120 : decode cX10_comeHour 120 = .ok (.iload_n 2, 1) := by decide +kernel
theorem dX10_comeHour_121 : decode cX10_comeHour 121 = .ok (.aload_n 0, 1) := by decide +kernel
theorem dX10_comeHour_122 : decode cX10_comeHour 122 = .ok (.getfield 17, 3) := by decide +kernel
theorem dX10_comeHour_125 : decode cX10_comeHour 125 = .ok (.invokevirtual 309, 3) := by decide +kernel
theorem dX10_comeHour_128 : decode cX10_comeHour 128 = .ok (.aload_n 0, 1) := by decide +kernel
theorem dX10_comeHour_129 : decode cX10_comeHour 129 = .ok (.getfield 46, 3) := by decide +kernel
theorem dX10_comeHour_132 : decode cX10_comeHour 132 = .ok (.aload_n 0, 1) := by decide +kernel
theorem dX10_comeHour_133 : decode cX10_comeHour 133 = .ok (.getfield 39, 3) := by decide +kernel
theorem dX10_comeHour_136 : decode cX10_comeHour 136 = .ok (.iload_n 1, 1) := by decide +kernel
theorem dX10_comeHour_137 : decode cX10_comeHour 137 = .ok (.invokevirtual 196, 3) := by decide +kernel
theorem dX10_comeHour_140 : decode cX10_comeHour 140 = .ok (.aload_n 0, 1) := by decide +kernel
theorem dX10_comeHour_141 : decode cX10_comeHour 141 = .ok (.getfield 17, 3) := by decide +kernel
theorem dX10_comeHour_144 : decode cX10_comeHour 144 = .ok (.invokevirtual 303, 3) := by decide +kernel
theorem dX10_comeHour_147 : decode cX10_comeHour 147 = .ok (.iinc 2 1, 3) := by decide +kernel
theorem dX10_comeHour_150 : decode cX10_comeHour 150 = .ok (.goto (-93), 3) := by decide +kernel
theorem dX10_comeHour_153 : decode cX10_comeHour 153 = .ok (.return_, 1) := by decide +kernel
def f_P_comeHour_b57 (F : Nat) : Nat → St → Int32 → Int32 → Option (St)
  | 0, _, _, _ => none
  | n + 1, s, l1, l2 =>
    if (gI s 4) ≤ l2 then
      (some s)
    else
      ((f_P_ruleAt F s l2).bind fun x5 => (if x5.1 = none then
        (f_P_comeHour_b57 F n x5.2 l1 (l2 + 1))
      else
        ((dgo x5.2 x5.1 6).bind fun _ => ((f_Rule_isDropped F x5.2 x5.1).bind fun x6 => (if x6.1 = 0 then
          ((dgo x6.2 x5.1 6).bind fun o7 => ((f_P_isDue F x6.2 x5.1 (gI x6.2 2) (o7.2.1 10)).bind fun x8 => (if x8.1 = 0 then
            (f_P_comeHour_b57 F n x8.2 l1 (l2 + 1))
          else
            ((dgo x8.2 x5.1 6).bind fun o9 => (lt (sF x8.2 o9 6 (ups o9.2.1 10 (gI x8.2 2), o9.2.2)) fun s10 => ((dgo s10 x5.1 6).bind fun o11 => ((dgo s10 x5.1 6).bind fun o12 => (lt (sF s10 o12 6 (ups o12.2.1 9 ((o11.2.1 9) + 1), o12.2.2)) fun s13 => ((f_Alarms_add F s13 l2 (gI s13 2)).bind fun x14 => ((f_Rota_holderOf F x14 l1).bind fun x15 => ((f_Alarms_wakeAll F x15.2 x15.1 (gI x15.2 2)).bind fun x16 => (f_P_comeHour_b57 F n x16 l1 (l2 + 1)))))))))))))
        else
          (f_P_comeHour_b57 F n x6.2 l1 (l2 + 1)))))))
def f_P_comeHour (F : Nat) (s : St)  : Option (St) :=
  lt (sI s 2 ((gI s 2) + 1)) fun s1 => (if ((gI s1 2) - (gI s1 2) / 8 * 8) = 0 then
    ((f_Rota_begin F s1 ((gI s1 2) / 8)).bind fun x2 => ((f_Rota_holderOf F x2 ((gI s1 2) / 8)).bind fun x3 => ((f_Alarms_wakeAll F x3.2 x3.1 (gI x3.2 2)).bind fun x4 => (f_P_comeHour_b57 F F x4 ((gI s1 2) / 8) 0))))
  else
    (f_P_comeHour_b57 F F s1 ((gI s1 2) / 8) 0))
set_option maxHeartbeats 1000000 in
theorem c_f_P_comeHour_b57 {F : Nat} {Γ : Ga} {D : DD} {B : Nat} {s' : St} (X : Cx Γ RX10 cX10_comeHour 4 D B { frames := 203, cells := 0, slots := 0, locals := 4669 }) (hr : (Gme Γ).sig.returnType = none) : ∀ (n : Nat) {s : St} {l1 : Int32} {l2 : Int32}, f_P_comeHour_b57 F n s l1 l2 = some s' → V Γ D B true 4 (QM Γ D B true s' none 0 0) 0 0 s 57 [(0, .ref (B + 0)), (1, .int l1), (2, .int l2)] [] := by
  intro n
  induction n with
  | zero => intro s l1 l2 hf; rw [f_P_comeHour_b57] at hf; cases hf
  | succ n ih =>
    intro s l1 l2 hf
    rw [f_P_comeHour_b57] at hf
    refine r_iload_n (pc := 57) X dX10_comeHour_57 2 rfl ?_
    refine r_aload_n (x := some 0) (pc := 58) X dX10_comeHour_58 0 rfl ?_
    refine r_get (j := 4) (pc := 59) X ce_0 rfl inT10 (by decide) w_284 rfl dX10_comeHour_59 ?_
    refine b_icmp_ge (tgt := 153) (pc := 62) X dX10_comeHour_62 (by decide) hf (fun hf => ?_) (fun hf => ?_)
    · exact e_vret (pc := 153) X hr hf (Nat.le_refl _) (Nat.le_refl _) dX10_comeHour_153
    · refine r_aload_n (x := some 0) (pc := 65) X dX10_comeHour_65 0 rfl ?_
      refine r_iload_n (pc := 66) X dX10_comeHour_66 2 rfl ?_
      refine bnd hf (fun x5 h5 hf => ?_)
      refine r_callVq (As := [.int l2]) (st := []) (pc := 67) X (c_f_P_ruleAt h5) rfl w_355 w_357 w_2 w_36 w_358 hdV_X10_ruleAt (Rc.s rfl ce_0) (by decide) (by decide) (by decide) (Nat.le_of_ble_eq_true rfl) dX10_comeHour_67 rfl ?_
      refine r_astore_n (pc := 70) (lv' := [(0, .ref (B + 0)), (1, .int l1), (2, .int l2), (3, rfB B x5.1)]) X dX10_comeHour_70 (by decide) [1, 2, 3, 0] rfl ?_
      refine r_aload_n (pc := 71) X dX10_comeHour_71 3 rfl ?_
      refine b_ifnull (tgt := 147) (pc := 72) X dX10_comeHour_72 (by decide) hf (fun hf => ?_) (fun hf => ?_)
      · refine r_iinc (v := l2 + 1) (lv' := [(0, .ref (B + 0)), (1, .int l1), (2, .int (l2 + 1))]) (pc := 147) X dX10_comeHour_147 2 rfl rfl (by decide) [1, 2, 0] rfl ?_
        refine r_goto (tgt := 57) (pc := 150) X dX10_comeHour_150 (by decide) ?_
        exact ih hf
      · refine r_aload_n (pc := 75) X dX10_comeHour_75 3 rfl ?_
        refine b_recv (w := true) (B := B) (D := D) rfl hf (fun a hx hrc hf => ?_)
        refine bnd hf (fun x6 h6 hf => ?_)
        refine r_callVi (As := []) (st := []) (pc := 76) X (c_f_Rule_isDropped h6) (by rw [hx]; rfl) w_510 w_511 w_512 w_54 w_513 hdV_X6_isDropped hrc (by decide) (by decide) (by decide) (Nat.le_of_ble_eq_true rfl) dX10_comeHour_76 (by rw [hx]; rfl) ?_
        refine b_if_ne (tgt := 147) (pc := 79) X dX10_comeHour_79 (by decide) hf (fun hf => ?_) (fun hf => ?_)
        · refine r_aload_n (x := some 0) (pc := 82) X dX10_comeHour_82 0 rfl ?_
          refine r_aload_n (pc := 83) X dX10_comeHour_83 3 rfl ?_
          refine r_aload_n (x := some 0) (pc := 84) X dX10_comeHour_84 0 rfl ?_
          refine r_get (j := 2) (pc := 85) X ce_0 rfl inT10 (by decide) w_282 rfl dX10_comeHour_85 ?_
          refine r_aload_n (pc := 88) X dX10_comeHour_88 3 rfl ?_
          refine b_dgetI (j := 10) (pc := 89) X rfl inT6 (by decide) w_734 rfl dX10_comeHour_89 hf (fun o7 hf => ?_)
          refine bnd hf (fun x8 h8 hf => ?_)
          refine r_callVi (As := [rfB B x5.1, .int (gI x6.2 2), .int (o7.2.1 10)]) (st := []) (pc := 92) X (c_f_P_isDue h8) rfl w_514 w_516 w_6 w_36 w_517 hdV_X10_isDue (Rc.s rfl ce_0) (by decide) (by decide) (by decide) (Nat.le_of_ble_eq_true rfl) dX10_comeHour_92 rfl ?_
          refine b_if_eq (tgt := 147) (pc := 95) X dX10_comeHour_95 (by decide) hf (fun hf => ?_) (fun hf => ?_)
          · refine r_iinc (v := l2 + 1) (lv' := [(0, .ref (B + 0)), (1, .int l1), (2, .int (l2 + 1))]) (pc := 147) X dX10_comeHour_147 2 rfl rfl (by decide) [1, 2, 0] rfl ?_
            refine r_goto (tgt := 57) (pc := 150) X dX10_comeHour_150 (by decide) ?_
            exact ih hf
          · refine r_aload_n (pc := 98) X dX10_comeHour_98 3 rfl ?_
            refine r_aload_n (x := some 0) (pc := 99) X dX10_comeHour_99 0 rfl ?_
            refine r_get (j := 2) (pc := 100) X ce_0 rfl inT10 (by decide) w_282 rfl dX10_comeHour_100 ?_
            refine b_dputI (j := 10) (pc := 103) X rfl inT6 tyX6 tyX6_ok nmX6 (by decide) w_734 (Or.inl rfl) (tyX6_ok 10 (by decide)) rfl rfl rfl dX10_comeHour_103 hf (fun o9 s10 hf => ?_)
            refine r_aload_n (pc := 106) X dX10_comeHour_106 3 rfl ?_
            refine r_dup (pc := 107) X dX10_comeHour_107 (rfB_cat _ _) ?_
            refine b_dgetI (j := 9) (pc := 108) X rfl inT6 (by decide) w_732 rfl dX10_comeHour_108 hf (fun o11 hf => ?_)
            refine r_iconst (v := 1) (pc := 111) X dX10_comeHour_111 (by decide) ?_
            refine r_iadd (pc := 112) X dX10_comeHour_112 ?_
            refine b_dputI (j := 9) (pc := 113) X rfl inT6 tyX6 tyX6_ok nmX6 (by decide) w_732 (Or.inl rfl) (tyX6_ok 9 (by decide)) rfl rfl rfl dX10_comeHour_113 hf (fun o12 s13 hf => ?_)
            refine r_aload_n (x := some 0) (pc := 116) X dX10_comeHour_116 0 rfl ?_
            refine r_get (j := 7) (pc := 117) X ce_0 rfl inT10 (by decide) w_287 rfl dX10_comeHour_117 ?_
            refine r_iload_n (pc := 120) X dX10_comeHour_120 2 rfl ?_
            refine r_aload_n (x := some 0) (pc := 121) X dX10_comeHour_121 0 rfl ?_
            refine r_get (j := 2) (pc := 122) X ce_0 rfl inT10 (by decide) w_282 rfl dX10_comeHour_122 ?_
            refine bnd hf (fun x14 h14 hf => ?_)
            refine r_callVv (As := [.int l2, .int (gI s13 2)]) (st := []) (pc := 125) X (c_f_Alarms_add h14) rfl w_587 w_588 w_589 w_40 w_590 hdV_X0_add (Rc.s rfl ce_18) (by decide) (by decide) (by decide) (Nat.le_of_ble_eq_true rfl) dX10_comeHour_125 rfl ?_
            refine r_aload_n (x := some 0) (pc := 128) X dX10_comeHour_128 0 rfl ?_
            refine r_get (j := 7) (pc := 129) X ce_0 rfl inT10 (by decide) w_287 rfl dX10_comeHour_129 ?_
            refine r_aload_n (x := some 0) (pc := 132) X dX10_comeHour_132 0 rfl ?_
            refine r_get (j := 6) (pc := 133) X ce_0 rfl inT10 (by decide) w_286 rfl dX10_comeHour_133 ?_
            refine r_iload_n (pc := 136) X dX10_comeHour_136 1 rfl ?_
            refine bnd hf (fun x15 h15 hf => ?_)
            refine r_callVi (As := [.int l1]) (st := [.ref (B + 18)]) (pc := 137) X (c_f_Rota_holderOf h15) rfl w_499 w_500 w_501 w_38 w_502 hdV_X5_holderOf (Rc.s rfl ce_12) (by decide) (by decide) (by decide) (Nat.le_of_ble_eq_true rfl) dX10_comeHour_137 rfl ?_
            refine r_aload_n (x := some 0) (pc := 140) X dX10_comeHour_140 0 rfl ?_
            refine r_get (j := 2) (pc := 141) X ce_0 rfl inT10 (by decide) w_282 rfl dX10_comeHour_141 ?_
            refine bnd hf (fun x16 h16 hf => ?_)
            refine r_callVv (As := [.int x15.1, .int (gI x15.2 2)]) (st := []) (pc := 144) X (c_f_Alarms_wakeAll h16) rfl w_503 w_504 w_505 w_40 w_506 hdV_X0_wakeAll (Rc.s rfl ce_18) (by decide) (by decide) (by decide) (Nat.le_of_ble_eq_true rfl) dX10_comeHour_144 rfl ?_
            refine r_iinc (v := l2 + 1) (lv' := [(0, .ref (B + 0)), (1, .int l1), (2, .int (l2 + 1))]) (pc := 147) X dX10_comeHour_147 2 rfl rfl (by decide) [1, 2, 0] rfl ?_
            refine r_goto (tgt := 57) (pc := 150) X dX10_comeHour_150 (by decide) ?_
            exact ih hf
        · refine r_iinc (v := l2 + 1) (lv' := [(0, .ref (B + 0)), (1, .int l1), (2, .int (l2 + 1))]) (pc := 147) X dX10_comeHour_147 2 rfl rfl (by decide) [1, 2, 0] rfl ?_
          refine r_goto (tgt := 57) (pc := 150) X dX10_comeHour_150 (by decide) ?_
          exact ih hf
set_option maxHeartbeats 1000000 in
theorem c_f_P_comeHour {F : Nat} {s : St}  {s' : St} (hf : f_P_comeHour F s  = some s') : CC true yX10_comeHour (Cond.code yX10_comeHour cX10_comeHour 4 none) (203) (4669) (fun B => [.ref (B + 0)]) s (fun B => none) s' 0 0 := by
  refine CC.of (fun B => [(0, .ref (B + 0))]) (by decide +kernel) (fun _ => rfl) (fun _ => (by simp [lg_sl, rfB_cat, catI, catL, catR])) (fun Γ D B X hr hin => ?_)
  have X : Cx Γ RX10 cX10_comeHour 4 D B { frames := 203, cells := 0, slots := 0, locals := 4669 } := X
  unfold f_P_comeHour at hf
  refine r_aload_n (x := some 0) (pc := 0) X dX10_comeHour_0 0 rfl ?_
  refine r_dup (pc := 1) X dX10_comeHour_1 rfl ?_
  refine r_get (j := 2) (pc := 2) X ce_0 rfl inT10 (by decide) w_282 rfl dX10_comeHour_2 ?_
  refine r_iconst (v := 1) (pc := 5) X dX10_comeHour_5 (by decide) ?_
  refine r_iadd (pc := 6) X dX10_comeHour_6 ?_
  refine b_put (j := 2) (pc := 7) X ce_0 rfl inT10 tyX10 tyX10_ok nmX10 (by decide) w_282 rfl (tyX10_ok 2 (by decide)) rfl rfl (Nat.le_of_ble_eq_true rfl) (cp_2 _) rfl rfl dX10_comeHour_7 hf (fun s1 hf => ?_)
  refine r_aload_n (x := some 0) (pc := 10) X dX10_comeHour_10 0 rfl ?_
  refine r_get (j := 2) (pc := 11) X ce_0 rfl inT10 (by decide) w_282 rfl dX10_comeHour_11 ?_
  refine r_bipush (v := 8) (pc := 14) X dX10_comeHour_14 (by decide) ?_
  refine r_idiv (pc := 16) X dX10_comeHour_16 (by decide) ?_
  refine r_istore_n (pc := 17) (lv' := [(0, .ref (B + 0)), (1, .int ((gI s1 2) / 8))]) X dX10_comeHour_17 (by decide) [1, 0] rfl ?_
  refine r_aload_n (x := some 0) (pc := 18) X dX10_comeHour_18 0 rfl ?_
  refine r_get (j := 2) (pc := 19) X ce_0 rfl inT10 (by decide) w_282 rfl dX10_comeHour_19 ?_
  refine r_bipush (v := 8) (pc := 22) X dX10_comeHour_22 (by decide) ?_
  refine r_irem (pc := 24) X dX10_comeHour_24 (by decide) ?_
  refine b_if_ne (tgt := 55) (pc := 25) X dX10_comeHour_25 (by decide) hf (fun hf => ?_) (fun hf => ?_)
  · refine r_aload_n (x := some 0) (pc := 28) X dX10_comeHour_28 0 rfl ?_
    refine r_get (j := 6) (pc := 29) X ce_0 rfl inT10 (by decide) w_286 rfl dX10_comeHour_29 ?_
    refine r_iload_n (pc := 32) X dX10_comeHour_32 1 rfl ?_
    refine bnd hf (fun x2 h2 hf => ?_)
    refine r_callVv (As := [.int ((gI s1 2) / 8)]) (st := []) (pc := 33) X (c_f_Rota_begin h2) rfl w_490 w_491 w_492 w_38 w_493 hdV_X5_begin (Rc.s rfl ce_12) (by decide) (by decide) (by decide) (Nat.le_of_ble_eq_true rfl) dX10_comeHour_33 rfl ?_
    refine r_aload_n (x := some 0) (pc := 36) X dX10_comeHour_36 0 rfl ?_
    refine r_get (j := 7) (pc := 37) X ce_0 rfl inT10 (by decide) w_287 rfl dX10_comeHour_37 ?_
    refine r_aload_n (x := some 0) (pc := 40) X dX10_comeHour_40 0 rfl ?_
    refine r_get (j := 6) (pc := 41) X ce_0 rfl inT10 (by decide) w_286 rfl dX10_comeHour_41 ?_
    refine r_iload_n (pc := 44) X dX10_comeHour_44 1 rfl ?_
    refine bnd hf (fun x3 h3 hf => ?_)
    refine r_callVi (As := [.int ((gI s1 2) / 8)]) (st := [.ref (B + 18)]) (pc := 45) X (c_f_Rota_holderOf h3) rfl w_499 w_500 w_501 w_38 w_502 hdV_X5_holderOf (Rc.s rfl ce_12) (by decide) (by decide) (by decide) (Nat.le_of_ble_eq_true rfl) dX10_comeHour_45 rfl ?_
    refine r_aload_n (x := some 0) (pc := 48) X dX10_comeHour_48 0 rfl ?_
    refine r_get (j := 2) (pc := 49) X ce_0 rfl inT10 (by decide) w_282 rfl dX10_comeHour_49 ?_
    refine bnd hf (fun x4 h4 hf => ?_)
    refine r_callVv (As := [.int x3.1, .int (gI x3.2 2)]) (st := []) (pc := 52) X (c_f_Alarms_wakeAll h4) rfl w_503 w_504 w_505 w_40 w_506 hdV_X0_wakeAll (Rc.s rfl ce_18) (by decide) (by decide) (by decide) (Nat.le_of_ble_eq_true rfl) dX10_comeHour_52 rfl ?_
    refine r_iconst (v := 0) (pc := 55) X dX10_comeHour_55 (by decide) ?_
    refine r_istore_n (pc := 56) (lv' := [(0, .ref (B + 0)), (1, .int ((gI s1 2) / 8)), (2, .int 0)]) X dX10_comeHour_56 (by decide) [1, 2, 0] rfl ?_
    exact c_f_P_comeHour_b57 X hr _ hf
  · refine r_iconst (v := 0) (pc := 55) X dX10_comeHour_55 (by decide) ?_
    refine r_istore_n (pc := 56) (lv' := [(0, .ref (B + 0)), (1, .int ((gI s1 2) / 8)), (2, .int 0)]) X dX10_comeHour_56 (by decide) [1, 2, 0] rfl ?_
    exact c_f_P_comeHour_b57 X hr _ hf
/-! f_P_pass -/
theorem dX10_pass_0 : decode cX10_pass 0 = .ok (.iload_n 1, 1) := by decide +kernel
theorem dX10_pass_1 : decode cX10_pass 1 = .ok (.iconst 1, 1) := by decide +kernel
theorem dX10_pass_2 : decode cX10_pass 2 = .ok (.bipush 24, 2) := by decide +kernel
theorem dX10_pass_4 : decode cX10_pass 4 = .ok (.invokestatic 128, 3) := by decide +kernel
theorem dX10_pass_7 : decode cX10_pass 7 = .ok (.ifCond .ne 13, 3) := by decide +kernel
theorem dX10_pass_10 : decode cX10_pass 10 = .ok (.new 78, 3) := by decide +kernel
theorem dX10_pass_13 : decode cX10_pass 13 = .ok (.dup, 1) := by decide +kernel
theorem dX10_pass_14 : decode cX10_pass 14 = .ok (.ldc 132, 2) := by decide +kernel
theorem dX10_pass_16 : decode cX10_pass 16 = .ok (.invokespecial 82, 3) := by decide +kernel
theorem dX10_pass_19 : decode cX10_pass 19 = .ok (.athrow, 1) := by decide +kernel
theorem dX10_pass_20 : decode cX10_pass 20 = .ok (.iload_n 1, 1) := by decide +kernel
theorem dX10_pass_21 : decode cX10_pass 21 = .ok (.sipush 1000, 3) := by decide +kernel
theorem dX10_pass_24 : decode cX10_pass 24 = .ok (.aload_n 0, 1) := by decide +kernel
theorem dX10_pass_25 : decode cX10_pass 25 = .ok (.getfield 17, 3) := by decide +kernel
theorem dX10_pass_28 : decode cX10_pass 28 = .ok (.isub, 1) := by decide +kernel
theorem dX10_pass_29 : decode cX10_pass 29 = .ok (.if_icmp .le 13, 3) := by decide +kernel
theorem dX10_pass_32 : decode cX10_pass 32 = .ok (.new 85, 3) := by decide +kernel
theorem dX10_pass_35 : decode cX10_pass 35 = .ok (.dup, 1) := by decide +kernel
theorem dX10_pass_36 : decode cX10_pass 36 = .ok (.ldc 134, 2) := by decide +kernel
theorem dX10_pass_38 : decode cX10_pass 38 = .ok (.invokespecial 89, 3) := by decide +kernel
theorem dX10_pass_41 : decode cX10_pass 41 = .ok (.athrow, 1) := by decide +kernel
theorem dX10_pass_42 : decode cX10_pass 42 = .ok (.aload_n 0, 1) := by decide +kernel
theorem dX10_pass_43 : decode cX10_pass 43 = .ok (.getfield 46, 3) := by decide +kernel
theorem dX10_pass_46 : decode cX10_pass 46 = .ok (.getfield 136, 3) := by decide +kernel
theorem dX10_pass_49 : decode cX10_pass 49 = .ok (.istore_n 2, 1) := by decide +kernel
theorem dX10_pass_50 : decode cX10_pass 50 = .ok (.iconst 0, 1) := by decide +kernel
theorem dX10_pass_51 : decode cX10_pass 51 = .ok (.istore_n 3, 1) := by decide +kernel
theorem dX10_pass_52 : decode cX10_pass 52 = .ok (.iload_n 3, 1) := by decide +kernel
theorem dX10_pass_53 : decode cX10_pass 53 = .ok (.iload_n 1, 1) := by decide +kernel
theorem dX10_pass_54 : decode cX10_pass 54 = .ok (.if_icmp .ge 13, 3) := by decide +kernel
theorem dX10_pass_57 : decode cX10_pass 57 = .ok (.aload_n 0, 1) := by decide +kernel
theorem dX10_pass_58 : decode cX10_pass 58 = .ok (.invokevirtual 139, 3) := by decide +kernel
theorem dX10_pass_61 : decode cX10_pass 61 = .ok (.iinc 3 1, 3) := by decide +kernel
theorem dX10_pass_64 : decode cX10_pass 64 = .ok (.goto (-12), 3) := by decide +kernel
theorem dX10_pass_67 : decode cX10_pass 67 = .ok (.aload_n 0, 1) := by decide +kernel
theorem dX10_pass_68 : decode cX10_pass 68 = .ok (.getfield 46, 3) := by decide +kernel
theorem dX10_pass_71 : decode cX10_pass 71 = .ok (.getfield 136, 3) := by decide +kernel
theorem dX10_pass_74 : decode cX10_pass 74 = .ok (.iload_n 2, 1) := by decide +kernel
theorem dX10_pass_75 : decode cX10_pass 75 = .ok (.isub, 1) := by decide +kernel
theorem dX10_pass_76 : decode cX10_pass 76 = .ok (.ireturn, 1) := by decide +kernel
def f_P_pass_b52 (F Z : Nat) : Nat → St → Int32 → Int32 → Int32 → Option ((Int32 ⊕ Nat) × St)
  | 0, _, _, _, _ => none
  | n + 1, s, l1, l2, l3 =>
    if l1 ≤ l3 then
      (some (.inl ((gI s 1157) - l2), s))
    else
      ((f_P_comeHour F s).bind fun x2 => (f_P_pass_b52 F Z n x2 l1 l2 (l3 + 1)))
def f_P_pass (F Z : Nat) (s : St) (p1 : Int32) : Option ((Int32 ⊕ Nat) × St) :=
  (f_P_isIn F s p1 1 24).bind fun x1 => (if x1.1 = 0 then
    (if sz x1.2 < Z then some (.inr 0, sz' x1.2 (sz x1.2 + 1)) else none)
  else
    (if p1 ≤ ((1000 : Int32) - (gI x1.2 2)) then
      (f_P_pass_b52 F Z F x1.2 p1 (gI x1.2 1157) 0)
    else
      (if sz x1.2 < Z then some (.inr 1, sz' x1.2 (sz x1.2 + 1)) else none)))
set_option maxHeartbeats 1000000 in
theorem c_f_P_pass_b52 {F Z : Nat} {Γ : Ga} {D : DD} {B : Nat} {r : Int32 ⊕ Nat} {s' : St} (X : Cx Γ RX10 cX10_pass 4 D B (RM Γ B Z (204) (4692))) (Y : Xx Γ B) (hr : (Gme Γ).sig.returnType = (some .int)) : ∀ (n : Nat) {s : St} {l1 : Int32} {l2 : Int32} {l3 : Int32}, f_P_pass_b52 F Z n s l1 l2 l3 = some (r, s') → V Γ D B true 4 (QX Γ D B true s' (ouI r) (RZ Γ B Z) (12 * RZ Γ B Z)) (kz Γ B Z s) (12 * kz Γ B Z s) s 52 [(0, .ref (B + 0)), (1, .int l1), (2, .int l2), (3, .int l3)] [] := by
  intro n
  induction n with
  | zero => intro s l1 l2 l3 hf; rw [f_P_pass_b52] at hf; cases hf
  | succ n ih =>
    intro s l1 l2 l3 hf
    rw [f_P_pass_b52] at hf
    refine r_iload_n (pc := 52) X dX10_pass_52 3 rfl ?_
    refine r_iload_n (pc := 53) X dX10_pass_53 1 rfl ?_
    refine b_icmp_ge (tgt := 67) (pc := 54) X dX10_pass_54 (by decide) hf (fun hf => ?_) (fun hf => ?_)
    · refine r_aload_n (x := some 0) (pc := 67) X dX10_pass_67 0 rfl ?_
      refine r_get (j := 7) (pc := 68) X ce_0 rfl inT10 (by decide) w_287 rfl dX10_pass_68 ?_
      refine r_get (j := 5) (pc := 71) X ce_18 rfl inT0 (by decide) w_161 rfl dX10_pass_71 ?_
      refine r_iload_n (pc := 74) X dX10_pass_74 2 rfl ?_
      refine r_isub (pc := 75) X dX10_pass_75 ?_
      exact x_iret (pc := 76) X hr hf dX10_pass_76
    · refine r_aload_n (x := some 0) (pc := 57) X dX10_pass_57 0 rfl ?_
      refine bnd hf (fun x2 h2 hf => ?_)
      refine z_callVv (As := []) (st := []) (pc := 58) X (c_f_P_comeHour h2) rfl w_486 w_488 w_4 w_36 w_489 hdV_X10_comeHour (Rc.s rfl ce_0) (by decide) (Nat.le_of_ble_eq_true rfl) dX10_pass_58 rfl ?_
      refine r_iinc (v := l3 + 1) (lv' := [(0, .ref (B + 0)), (1, .int l1), (2, .int l2), (3, .int (l3 + 1))]) (pc := 61) X dX10_pass_61 3 rfl rfl (by decide) [1, 2, 3, 0] rfl ?_
      refine r_goto (tgt := 52) (pc := 64) X dX10_pass_64 (by decide) ?_
      exact ih hf
set_option maxHeartbeats 1000000 in
theorem c_f_P_pass {F Z : Nat} {s : St} {p1 : Int32} {r : Int32 ⊕ Nat} {s' : St} (hf : f_P_pass F Z s p1 = some (r, s')) : CX true yX10_pass (Cond.code yX10_pass cX10_pass 4 (some .int)) (204) (4692) (Z - sz s) (12 * (Z - sz s)) (fun B => [.ref (B + 0), .int p1]) s (fun B => (ouI r)) s' (Z - sz s) (12 * (Z - sz s)) := by
  refine CX.ofX (fun B => [(0, .ref (B + 0)), (1, .int p1)]) (by decide +kernel) (fun _ => rfl) (fun _ => (by simp [lg_sl, rfB_cat, catI, catL, catR])) (fun Γ D B X Y hr => ?_)
  have X : Cx Γ RX10 cX10_pass 4 D B (RM Γ B Z (204) (4692)) := X
  unfold f_P_pass at hf
  refine r_iload_n (pc := 0) X dX10_pass_0 1 rfl ?_
  refine r_iconst (v := 1) (pc := 1) X dX10_pass_1 (by decide) ?_
  refine r_bipush (v := 24) (pc := 2) X dX10_pass_2 (by decide) ?_
  refine bnd hf (fun x1 h1 hf => ?_)
  refine z_callSi (As := [.int p1, .int 1, .int 24]) (st := []) (pc := 4) X (c_f_P_isIn h1) rfl w_483 w_342 w_36 w_343 hdS_X10_isIn (by decide) (Nat.le_of_ble_eq_true rfl) dX10_pass_4 rfl ?_
  refine b_if_ne (tgt := 20) (pc := 7) X dX10_pass_7 (by decide) hf (fun hf => ?_) (fun hf => ?_)
  · exact x_throw (e := 0) (pc := 10) X Y (by decide +kernel) tnames_ok w_447 w_52 thr_0_82 (thg_0_82 _) str_132 rfl (by decide) (by decide) dX10_pass_10 dX10_pass_13 dX10_pass_14 dX10_pass_16 dX10_pass_19 hf
  · refine r_iload_n (pc := 20) X dX10_pass_20 1 rfl ?_
    refine r_sipush (v := 1000) (pc := 21) X dX10_pass_21 (by decide) ?_
    refine r_aload_n (x := some 0) (pc := 24) X dX10_pass_24 0 rfl ?_
    refine r_get (j := 2) (pc := 25) X ce_0 rfl inT10 (by decide) w_282 rfl dX10_pass_25 ?_
    refine r_isub (pc := 28) X dX10_pass_28 ?_
    refine b_icmp_le (tgt := 42) (pc := 29) X dX10_pass_29 (by decide) hf (fun hf => ?_) (fun hf => ?_)
    · refine r_aload_n (x := some 0) (pc := 42) X dX10_pass_42 0 rfl ?_
      refine r_get (j := 7) (pc := 43) X ce_0 rfl inT10 (by decide) w_287 rfl dX10_pass_43 ?_
      refine r_get (j := 5) (pc := 46) X ce_18 rfl inT0 (by decide) w_161 rfl dX10_pass_46 ?_
      refine r_istore_n (pc := 49) (lv' := [(0, .ref (B + 0)), (1, .int p1), (2, .int (gI x1.2 1157))]) X dX10_pass_49 (by decide) [1, 2, 0] rfl ?_
      refine r_iconst (v := 0) (pc := 50) X dX10_pass_50 (by decide) ?_
      refine r_istore_n (pc := 51) (lv' := [(0, .ref (B + 0)), (1, .int p1), (2, .int (gI x1.2 1157)), (3, .int 0)]) X dX10_pass_51 (by decide) [1, 2, 3, 0] rfl ?_
      exact c_f_P_pass_b52 X Y hr _ hf
    · exact x_throw (e := 1) (pc := 32) X Y (by decide +kernel) tnames_ok w_463 w_53 thr_1_89 (thg_1_89 _) str_134 rfl (by decide) (by decide) dX10_pass_32 dX10_pass_35 dX10_pass_36 dX10_pass_38 dX10_pass_41 hf
/-! f_P_log -/
theorem dX10_log_0 : decode cX10_log 0 = .ok (.iload_n 1, 1) := by decide +kernel
theorem dX10_log_1 : decode cX10_log 1 = .ok (.iconst 0, 1) := by decide +kernel
theorem dX10_log_2 : decode cX10_log 2 = .ok (.bipush 7, 2) := by decide +kernel
theorem dX10_log_4 : decode cX10_log 4 = .ok (.invokestatic 128, 3) := by decide +kernel
theorem dX10_log_7 : decode cX10_log 7 = .ok (.ifCond .eq 12, 3) := by decide +kernel
theorem dX10_log_10 : decode cX10_log 10 = .ok (.iload_n 2, 1) := by decide +kernel
theorem dX10_log_11 : decode cX10_log 11 = .ok (.iconst 0, 1) := by decide +kernel
theorem dX10_log_12 : decode cX10_log 12 = .ok (.iconst 5, 1) := by decide +kernel
theorem dX10_log_13 : decode cX10_log 13 = .ok (.invokestatic 128, 3) := by decide +kernel
theorem dX10_log_16 : decode cX10_log 16 = .ok (.ifCond .ne 13, 3) := by decide +kernel
theorem dX10_log_19 : decode cX10_log 19 = .ok (.new 78, 3) := by decide +kernel
theorem dX10_log_22 : decode cX10_log 22 = .ok (.dup, 1) := by decide +kernel
theorem dX10_log_23 : decode cX10_log 23 = .ok (.ldc 142, 2) := by decide +kernel
theorem dX10_log_25 : decode cX10_log 25 = .ok (.invokespecial 82, 3) := by decide +kernel
theorem dX10_log_28 : decode cX10_log 28 = .ok (.athrow, 1) := by decide +kernel
theorem dX10_log_29 : decode cX10_log 29 = .ok (.iload_n 3, 1) := by decide +kernel
theorem dX10_log_30 : decode cX10_log 30 = .ok (.sipush (-1000), 3) := by decide +kernel
theorem dX10_log_33 : decode cX10_log 33 = .ok (.sipush 1000, 3) := by decide +kernel
theorem dX10_log_36 : decode cX10_log 36 = .ok (.invokestatic 128, 3) := by decide +kernel
theorem dX10_log_39 : decode cX10_log 39 = .ok (.ifCond .eq 16, 3) := by decide +kernel
theorem dX10_log_42 : decode cX10_log 42 = .ok (.iload 4, 2) := by decide +kernel
theorem dX10_log_44 : decode cX10_log 44 = .ok (.iconst 0, 1) := by decide +kernel
theorem dX10_log_45 : decode cX10_log 45 = .ok (.aload_n 0, 1) := by decide +kernel
theorem dX10_log_46 : decode cX10_log 46 = .ok (.getfield 17, 3) := by decide +kernel
theorem dX10_log_49 : decode cX10_log 49 = .ok (.invokestatic 128, 3) := by decide +kernel
theorem dX10_log_52 : decode cX10_log 52 = .ok (.ifCond .ne 13, 3) := by decide +kernel
theorem dX10_log_55 : decode cX10_log 55 = .ok (.new 78, 3) := by decide +kernel
theorem dX10_log_58 : decode cX10_log 58 = .ok (.dup, 1) := by decide +kernel
theorem dX10_log_59 : decode cX10_log 59 = .ok (.ldc 144, 2) := by decide +kernel
theorem dX10_log_61 : decode cX10_log 61 = .ok (.invokespecial 82, 3) := by decide +kernel
theorem dX10_log_64 : decode cX10_log 64 = .ok (.athrow, 1) := by decide +kernel
theorem dX10_log_65 : decode cX10_log 65 = .ok (.aload_n 0, 1) := by decide +kernel
theorem dX10_log_66 : decode cX10_log 66 = .ok (.getfield 32, 3) := by decide +kernel
theorem dX10_log_69 : decode cX10_log 69 = .ok (.getfield 146, 3) := by decide +kernel
theorem dX10_log_72 : decode cX10_log 72 = .ok (.bipush 100, 2) := by decide +kernel
theorem dX10_log_74 : decode cX10_log 74 = .ok (.if_icmp .lt 13, 3) := by decide +kernel
theorem dX10_log_77 : decode cX10_log 77 = .ok (.new 85, 3) := by decide +kernel
theorem dX10_log_80 : decode cX10_log 80 = .ok (.dup, 1) := by decide +kernel
theorem dX10_log_81 : decode cX10_log 81 = .ok (.ldc 147, 2) := by decide +kernel
theorem dX10_log_83 : decode cX10_log 83 = .ok (.invokespecial 89, 3) := by decide +kernel
theorem dX10_log_86 : decode cX10_log 86 = .ok (.athrow, 1) := by decide +kernel
theorem dX10_log_87 : decode cX10_log 87 = .ok (.aload_n 0, 1) := by decide +kernel
theorem dX10_log_88 : decode cX10_log 88 = .ok (.getfield 32, 3) := by decide +kernel
theorem dX10_log_91 : decode cX10_log 91 = .ok (.iload_n 1, 1) := by decide +kernel
theorem dX10_log_92 : decode cX10_log 92 = .ok (.iload_n 2, 1) := by decide +kernel
theorem dX10_log_93 : decode cX10_log 93 = .ok (.iload_n 3, 1) := by decide +kernel
theorem dX10_log_94 : decode cX10_log 94 = .ok (.iload 4, 2) := by decide +kernel
theorem dX10_log_96 : decode cX10_log 96 = .ok (.aload_n 0, 1) := by decide +kernel
theorem dX10_log_97 : decode cX10_log 97 = .ok (.getfield 17, 3) := by decide +kernel
theorem dX10_log_100 : decode cX10_log 100 = .ok (.invokevirtual 149, 3) := by decide +kernel
theorem dX10_log_103 : decode cX10_log 103 = .ok (.ireturn, 1) := by decide +kernel
def f_P_log (F Z : Nat) (s : St) (p1 : Int32) (p2 : Int32) (p3 : Int32) (p4 : Int32) : Option ((Int32 ⊕ Nat) × St) :=
  (f_P_isIn F s p1 0 7).bind fun x1 => (if x1.1 = 0 then
    (if sz x1.2 < Z then some (.inr 0, sz' x1.2 (sz x1.2 + 1)) else none)
  else
    ((f_P_isIn F x1.2 p2 0 5).bind fun x2 => (if x2.1 = 0 then
      (if sz x2.2 < Z then some (.inr 0, sz' x2.2 (sz x2.2 + 1)) else none)
    else
      ((f_P_isIn F x2.2 p3 (-1000) 1000).bind fun x3 => (if x3.1 = 0 then
        (if sz x3.2 < Z then some (.inr 0, sz' x3.2 (sz x3.2 + 1)) else none)
      else
        ((f_P_isIn F x3.2 p4 0 (gI x3.2 2)).bind fun x4 => (if x4.1 = 0 then
          (if sz x4.2 < Z then some (.inr 0, sz' x4.2 (sz x4.2 + 1)) else none)
        else
          (if (gI x4.2 200) < 100 then
            ((f_Logs_add F x4.2 p1 p2 p3 p4 (gI x4.2 2)).bind fun x5 => (some (.inl x5.1, x5.2)))
          else
            (if sz x4.2 < Z then some (.inr 1, sz' x4.2 (sz x4.2 + 1)) else none)))))))))
set_option maxHeartbeats 1000000 in
theorem c_f_P_log {F Z : Nat} {s : St} {p1 : Int32} {p2 : Int32} {p3 : Int32} {p4 : Int32} {r : Int32 ⊕ Nat} {s' : St} (hf : f_P_log F Z s p1 p2 p3 p4 = some (r, s')) : CX true yX10_log (Cond.code yX10_log cX10_log 5 (some .int)) (6) (90) (Z - sz s) (12 * (Z - sz s)) (fun B => [.ref (B + 0), .int p1, .int p2, .int p3, .int p4]) s (fun B => (ouI r)) s' (Z - sz s) (12 * (Z - sz s)) := by
  refine CX.ofX (fun B => [(0, .ref (B + 0)), (1, .int p1), (2, .int p2), (3, .int p3), (4, .int p4)]) (by decide +kernel) (fun _ => rfl) (fun _ => (by simp [lg_sl, rfB_cat, catI, catL, catR])) (fun Γ D B X Y hr => ?_)
  have X : Cx Γ RX10 cX10_log 5 D B (RM Γ B Z (6) (90)) := X
  unfold f_P_log at hf
  refine r_iload_n (pc := 0) X dX10_log_0 1 rfl ?_
  refine r_iconst (v := 0) (pc := 1) X dX10_log_1 (by decide) ?_
  refine r_bipush (v := 7) (pc := 2) X dX10_log_2 (by decide) ?_
  refine bnd hf (fun x1 h1 hf => ?_)
  refine z_callSi (As := [.int p1, .int 0, .int 7]) (st := []) (pc := 4) X (c_f_P_isIn h1) rfl w_483 w_342 w_36 w_343 hdS_X10_isIn (by decide) (Nat.le_of_ble_eq_true rfl) dX10_log_4 rfl ?_
  refine b_if_eq (tgt := 19) (pc := 7) X dX10_log_7 (by decide) hf (fun hf => ?_) (fun hf => ?_)
  · exact x_throw (e := 0) (pc := 19) X Y (by decide +kernel) tnames_ok w_447 w_52 thr_0_82 (thg_0_82 _) str_142 rfl (by decide) (by decide) dX10_log_19 dX10_log_22 dX10_log_23 dX10_log_25 dX10_log_28 hf
  · refine r_iload_n (pc := 10) X dX10_log_10 2 rfl ?_
    refine r_iconst (v := 0) (pc := 11) X dX10_log_11 (by decide) ?_
    refine r_iconst (v := 5) (pc := 12) X dX10_log_12 (by decide) ?_
    refine bnd hf (fun x2 h2 hf => ?_)
    refine z_callSi (As := [.int p2, .int 0, .int 5]) (st := []) (pc := 13) X (c_f_P_isIn h2) rfl w_483 w_342 w_36 w_343 hdS_X10_isIn (by decide) (Nat.le_of_ble_eq_true rfl) dX10_log_13 rfl ?_
    refine b_if_ne (tgt := 29) (pc := 16) X dX10_log_16 (by decide) hf (fun hf => ?_) (fun hf => ?_)
    · exact x_throw (e := 0) (pc := 19) X Y (by decide +kernel) tnames_ok w_447 w_52 thr_0_82 (thg_0_82 _) str_142 rfl (by decide) (by decide) dX10_log_19 dX10_log_22 dX10_log_23 dX10_log_25 dX10_log_28 hf
    · refine r_iload_n (pc := 29) X dX10_log_29 3 rfl ?_
      refine r_sipush (v := -1000) (pc := 30) X dX10_log_30 (by decide) ?_
      refine r_sipush (v := 1000) (pc := 33) X dX10_log_33 (by decide) ?_
      refine bnd hf (fun x3 h3 hf => ?_)
      refine z_callSi (As := [.int p3, .int (-1000), .int 1000]) (st := []) (pc := 36) X (c_f_P_isIn h3) rfl w_483 w_342 w_36 w_343 hdS_X10_isIn (by decide) (Nat.le_of_ble_eq_true rfl) dX10_log_36 rfl ?_
      refine b_if_eq (tgt := 55) (pc := 39) X dX10_log_39 (by decide) hf (fun hf => ?_) (fun hf => ?_)
      · exact x_throw (e := 0) (pc := 55) X Y (by decide +kernel) tnames_ok w_447 w_52 thr_0_82 (thg_0_82 _) str_144 rfl (by decide) (by decide) dX10_log_55 dX10_log_58 dX10_log_59 dX10_log_61 dX10_log_64 hf
      · refine r_iload (pc := 42) X dX10_log_42 4 rfl ?_
        refine r_iconst (v := 0) (pc := 44) X dX10_log_44 (by decide) ?_
        refine r_aload_n (x := some 0) (pc := 45) X dX10_log_45 0 rfl ?_
        refine r_get (j := 2) (pc := 46) X ce_0 rfl inT10 (by decide) w_282 rfl dX10_log_46 ?_
        refine bnd hf (fun x4 h4 hf => ?_)
        refine z_callSi (As := [.int p4, .int 0, .int (gI x3.2 2)]) (st := []) (pc := 49) X (c_f_P_isIn h4) rfl w_483 w_342 w_36 w_343 hdS_X10_isIn (by decide) (Nat.le_of_ble_eq_true rfl) dX10_log_49 rfl ?_
        refine b_if_ne (tgt := 65) (pc := 52) X dX10_log_52 (by decide) hf (fun hf => ?_) (fun hf => ?_)
        · exact x_throw (e := 0) (pc := 55) X Y (by decide +kernel) tnames_ok w_447 w_52 thr_0_82 (thg_0_82 _) str_144 rfl (by decide) (by decide) dX10_log_55 dX10_log_58 dX10_log_59 dX10_log_61 dX10_log_64 hf
        · refine r_aload_n (x := some 0) (pc := 65) X dX10_log_65 0 rfl ?_
          refine r_get (j := 5) (pc := 66) X ce_0 rfl inT10 (by decide) w_285 rfl dX10_log_66 ?_
          refine r_get (j := 8) (pc := 69) X ce_3 rfl inT2 (by decide) w_83 rfl dX10_log_69 ?_
          refine r_bipush (v := 100) (pc := 72) X dX10_log_72 (by decide) ?_
          refine b_icmp_lt (tgt := 87) (pc := 74) X dX10_log_74 (by decide) hf (fun hf => ?_) (fun hf => ?_)
          · refine r_aload_n (x := some 0) (pc := 87) X dX10_log_87 0 rfl ?_
            refine r_get (j := 5) (pc := 88) X ce_0 rfl inT10 (by decide) w_285 rfl dX10_log_88 ?_
            refine r_iload_n (pc := 91) X dX10_log_91 1 rfl ?_
            refine r_iload_n (pc := 92) X dX10_log_92 2 rfl ?_
            refine r_iload_n (pc := 93) X dX10_log_93 3 rfl ?_
            refine r_iload (pc := 94) X dX10_log_94 4 rfl ?_
            refine r_aload_n (x := some 0) (pc := 96) X dX10_log_96 0 rfl ?_
            refine r_get (j := 2) (pc := 97) X ce_0 rfl inT10 (by decide) w_282 rfl dX10_log_97 ?_
            refine bnd hf (fun x5 h5 hf => ?_)
            refine z_callVi (As := [.int p1, .int p2, .int p3, .int p4, .int (gI x4.2 2)]) (st := []) (pc := 100) X (c_f_Logs_add h5) rfl w_599 w_600 w_601 w_37 w_602 hdV_X2_add (Rc.s rfl ce_3) (by decide) (Nat.le_of_ble_eq_true rfl) dX10_log_100 rfl ?_
            exact x_iret (pc := 103) X hr hf dX10_log_103
          · exact x_throw (e := 1) (pc := 77) X Y (by decide +kernel) tnames_ok w_463 w_53 thr_1_89 (thg_1_89 _) str_147 rfl (by decide) (by decide) dX10_log_77 dX10_log_80 dX10_log_81 dX10_log_83 dX10_log_86 hf
/-! f_P_addPerson -/
theorem dX10_addPerson_0 : decode cX10_addPerson 0 = .ok (.aload_n 0, 1) := by decide +kernel
theorem dX10_addPerson_1 : decode cX10_addPerson 1 = .ok (.getfield 39, 3) := by decide +kernel
theorem dX10_addPerson_4 : decode cX10_addPerson 4 = .ok (.getfield 153, 3) := by decide +kernel
theorem dX10_addPerson_7 : decode cX10_addPerson 7 = .ok (.bipush 8, 2) := by decide +kernel
theorem dX10_addPerson_9 : decode cX10_addPerson 9 = .ok (.if_icmp .lt 13, 3) := by decide +kernel
theorem dX10_addPerson_12 : decode cX10_addPerson 12 = .ok (.new 85, 3) := by decide +kernel
theorem dX10_addPerson_15 : decode cX10_addPerson 15 = .ok (.dup, 1) := by decide +kernel
theorem dX10_addPerson_16 : decode cX10_addPerson 16 = .ok (.ldc 156, 2) := by decide +kernel
theorem dX10_addPerson_18 : decode cX10_addPerson 18 = .ok (.invokespecial 89, 3) := by decide +kernel
theorem dX10_addPerson_21 : decode cX10_addPerson 21 = .ok (.athrow, 1) := by decide +kernel
theorem dX10_addPerson_22 : decode cX10_addPerson 22 = .ok (.aload_n 0, 1) := by decide +kernel
theorem dX10_addPerson_23 : decode cX10_addPerson 23 = .ok (.getfield 39, 3) := by decide +kernel
theorem dX10_addPerson_26 : decode cX10_addPerson 26 = .ok (.dup, 1) := by decide +kernel
theorem dX10_addPerson_27 : decode cX10_addPerson 27 = .ok (.getfield 153, 3) := by decide +kernel
theorem dX10_addPerson_30 : decode cX10_addPerson 30 = .ok (.iconst 1, 1) := by decide +kernel
theorem dX10_addPerson_31 : decode cX10_addPerson 31 = .ok (.iadd, 1) := by decide +kernel
theorem dX10_addPerson_32 : decode cX10_addPerson 32 = .ok (.putfield 153, 3) := by decide +kernel
theorem dX10_addPerson_35 : decode cX10_addPerson 35 = .ok (.aload_n 0, 1) := by decide +kernel
theorem dX10_addPerson_36 : decode cX10_addPerson 36 = .ok (.getfield 39, 3) := by decide +kernel
theorem dX10_addPerson_39 : decode cX10_addPerson 39 = .ok (.getfield 153, 3) := by decide +kernel
theorem dX10_addPerson_42 : decode cX10_addPerson 42 = .ok (.iconst 1, 1) := by decide +kernel
theorem dX10_addPerson_43 : decode cX10_addPerson 43 = .ok (.isub, 1) := by decide +kernel
theorem dX10_addPerson_44 : decode cX10_addPerson 44 = .ok (.ireturn, 1) := by decide +kernel
def f_P_addPerson (F Z : Nat) (s : St)  : Option ((Int32 ⊕ Nat) × St) :=
  if (gI s 768) < 8 then
    (lt (sI s 768 ((gI s 768) + 1)) fun s1 => (some (.inl ((gI s1 768) - 1), s1)))
  else
    (if sz s < Z then some (.inr 1, sz' s (sz s + 1)) else none)
set_option maxHeartbeats 1000000 in
theorem c_f_P_addPerson {F Z : Nat} {s : St}  {r : Int32 ⊕ Nat} {s' : St} (hf : f_P_addPerson F Z s  = some (r, s')) : CX true yX10_addPerson (Cond.code yX10_addPerson cX10_addPerson 1 (some .int)) (6) (90) (Z - sz s) (12 * (Z - sz s)) (fun B => [.ref (B + 0)]) s (fun B => (ouI r)) s' (Z - sz s) (12 * (Z - sz s)) := by
  refine CX.ofX (fun B => [(0, .ref (B + 0))]) (by decide +kernel) (fun _ => rfl) (fun _ => (by simp [lg_sl, rfB_cat, catI, catL, catR])) (fun Γ D B X Y hr => ?_)
  have X : Cx Γ RX10 cX10_addPerson 1 D B (RM Γ B Z (6) (90)) := X
  unfold f_P_addPerson at hf
  refine r_aload_n (x := some 0) (pc := 0) X dX10_addPerson_0 0 rfl ?_
  refine r_get (j := 6) (pc := 1) X ce_0 rfl inT10 (by decide) w_286 rfl dX10_addPerson_1 ?_
  refine r_get (j := 0) (pc := 4) X ce_12 rfl inT5 (by decide) w_121 rfl dX10_addPerson_4 ?_
  refine r_bipush (v := 8) (pc := 7) X dX10_addPerson_7 (by decide) ?_
  refine b_icmp_lt (tgt := 22) (pc := 9) X dX10_addPerson_9 (by decide) hf (fun hf => ?_) (fun hf => ?_)
  · refine r_aload_n (x := some 0) (pc := 22) X dX10_addPerson_22 0 rfl ?_
    refine r_get (j := 6) (pc := 23) X ce_0 rfl inT10 (by decide) w_286 rfl dX10_addPerson_23 ?_
    refine r_dup (pc := 26) X dX10_addPerson_26 rfl ?_
    refine r_get (j := 0) (pc := 27) X ce_12 rfl inT5 (by decide) w_121 rfl dX10_addPerson_27 ?_
    refine r_iconst (v := 1) (pc := 30) X dX10_addPerson_30 (by decide) ?_
    refine r_iadd (pc := 31) X dX10_addPerson_31 ?_
    refine z_put (j := 0) (pc := 32) X ce_12 rfl inT5 tyX5 tyX5_ok nmX5 (by decide) w_121 rfl (tyX5_ok 0 (by decide)) rfl rfl (Nat.le_of_ble_eq_true rfl) (cp_768 _) rfl rfl dX10_addPerson_32 hf (fun s1 hf => ?_)
    refine r_aload_n (x := some 0) (pc := 35) X dX10_addPerson_35 0 rfl ?_
    refine r_get (j := 6) (pc := 36) X ce_0 rfl inT10 (by decide) w_286 rfl dX10_addPerson_36 ?_
    refine r_get (j := 0) (pc := 39) X ce_12 rfl inT5 (by decide) w_121 rfl dX10_addPerson_39 ?_
    refine r_iconst (v := 1) (pc := 42) X dX10_addPerson_42 (by decide) ?_
    refine r_isub (pc := 43) X dX10_addPerson_43 ?_
    exact x_iret (pc := 44) X hr hf dX10_addPerson_44
  · exact x_throw (e := 1) (pc := 12) X Y (by decide +kernel) tnames_ok w_463 w_53 thr_1_89 (thg_1_89 _) str_156 rfl (by decide) (by decide) dX10_addPerson_12 dX10_addPerson_15 dX10_addPerson_16 dX10_addPerson_18 dX10_addPerson_21 hf
/-! f_P_off -/
theorem dX10_off_0 : decode cX10_off 0 = .ok (.aload_n 0, 1) := by decide +kernel
theorem dX10_off_1 : decode cX10_off 1 = .ok (.getfield 39, 3) := by decide +kernel
theorem dX10_off_4 : decode cX10_off 4 = .ok (.iload_n 1, 1) := by decide +kernel
theorem dX10_off_5 : decode cX10_off 5 = .ok (.invokevirtual 158, 3) := by decide +kernel
theorem dX10_off_8 : decode cX10_off 8 = .ok (.ifCond .ne 13, 3) := by decide +kernel
theorem dX10_off_11 : decode cX10_off 11 = .ok (.new 162, 3) := by decide +kernel
theorem dX10_off_14 : decode cX10_off 14 = .ok (.dup, 1) := by decide +kernel
theorem dX10_off_15 : decode cX10_off 15 = .ok (.ldc 164, 2) := by decide +kernel
theorem dX10_off_17 : decode cX10_off 17 = .ok (.invokespecial 166, 3) := by decide +kernel
theorem dX10_off_20 : decode cX10_off 20 = .ok (.athrow, 1) := by decide +kernel
theorem dX10_off_21 : decode cX10_off 21 = .ok (.aload_n 0, 1) := by decide +kernel
theorem dX10_off_22 : decode cX10_off 22 = .ok (.iload_n 2, 1) := by decide +kernel
theorem dX10_off_23 : decode cX10_off 23 = .ok (.invokevirtual 167, 3) := by decide +kernel
theorem dX10_off_26 : decode cX10_off 26 = .ok (.ifCond .ne 13, 3) := by decide +kernel
theorem dX10_off_29 : decode cX10_off 29 = .ok (.new 78, 3) := by decide +kernel
theorem dX10_off_32 : decode cX10_off 32 = .ok (.dup, 1) := by decide +kernel
theorem dX10_off_33 : decode cX10_off 33 = .ok (.ldc 170, 2) := by decide +kernel
theorem dX10_off_35 : decode cX10_off 35 = .ok (.invokespecial 82, 3) := by decide +kernel
theorem dX10_off_38 : decode cX10_off 38 = .ok (.athrow, 1) := by decide +kernel
theorem dX10_off_39 : decode cX10_off 39 = .ok (.aload_n 0, 1) := by decide +kernel
theorem dX10_off_40 : decode cX10_off 40 = .ok (.getfield 39, 3) := by decide +kernel
theorem dX10_off_43 : decode cX10_off 43 = .ok (.iload_n 1, 1) := by decide +kernel
theorem dX10_off_44 : decode cX10_off 44 = .ok (.iload_n 2, 1) := by decide +kernel
theorem dX10_off_45 : decode cX10_off 45 = .ok (.invokevirtual 172, 3) := by decide +kernel
theorem dX10_off_48 : decode cX10_off 48 = .ok (.aload_n 0, 1) := by decide +kernel
theorem dX10_off_49 : decode cX10_off 49 = .ok (.getfield 39, 3) := by decide +kernel
theorem dX10_off_52 : decode cX10_off 52 = .ok (.iload_n 1, 1) := by decide +kernel
theorem dX10_off_53 : decode cX10_off 53 = .ok (.iload_n 2, 1) := by decide +kernel
theorem dX10_off_54 : decode cX10_off 54 = .ok (.invokevirtual 176, 3) := by decide +kernel
theorem dX10_off_57 : decode cX10_off 57 = .ok (.ireturn, 1) := by decide +kernel
def f_P_off (F Z : Nat) (s : St) (p1 : Int32) (p2 : Int32) : Option ((Int32 ⊕ Nat) × St) :=
  (f_Rota_hasPerson F s p1).bind fun x1 => (if x1.1 = 0 then
    (if sz x1.2 < Z then some (.inr 2, sz' x1.2 (sz x1.2 + 1)) else none)
  else
    ((f_P_isToCome F x1.2 p2).bind fun x2 => (if x2.1 = 0 then
      (if sz x2.2 < Z then some (.inr 0, sz' x2.2 (sz x2.2 + 1)) else none)
    else
      ((f_Rota_turnOff F x2.2 p1 p2).bind fun x3 => ((f_Rota_isOff F x3 p1 p2).bind fun x4 => (if x4.1 = 0 ∨ x4.1 = 1 then (some (.inl x4.1, x4.2)) else none))))))
set_option maxHeartbeats 1000000 in
theorem c_f_P_off {F Z : Nat} {s : St} {p1 : Int32} {p2 : Int32} {r : Int32 ⊕ Nat} {s' : St} (hf : f_P_off F Z s p1 p2 = some (r, s')) : CX true yX10_off (Cond.code yX10_off cX10_off 3 (some .boolean)) (6) (90) (Z - sz s) (12 * (Z - sz s)) (fun B => [.ref (B + 0), .int p1, .int p2]) s (fun B => (ouI r)) s' (Z - sz s) (12 * (Z - sz s)) := by
  refine CX.ofX (fun B => [(0, .ref (B + 0)), (1, .int p1), (2, .int p2)]) (by decide +kernel) (fun _ => rfl) (fun _ => (by simp [lg_sl, rfB_cat, catI, catL, catR])) (fun Γ D B X Y hr => ?_)
  have X : Cx Γ RX10 cX10_off 3 D B (RM Γ B Z (6) (90)) := X
  unfold f_P_off at hf
  refine r_aload_n (x := some 0) (pc := 0) X dX10_off_0 0 rfl ?_
  refine r_get (j := 6) (pc := 1) X ce_0 rfl inT10 (by decide) w_286 rfl dX10_off_1 ?_
  refine r_iload_n (pc := 4) X dX10_off_4 1 rfl ?_
  refine bnd hf (fun x1 h1 hf => ?_)
  refine z_callVi (As := [.int p1]) (st := []) (pc := 5) X (c_f_Rota_hasPerson h1) rfl w_616 w_617 w_618 w_38 w_619 hdV_X5_hasPerson (Rc.s rfl ce_12) (by decide) (Nat.le_of_ble_eq_true rfl) dX10_off_5 rfl ?_
  refine b_if_ne (tgt := 21) (pc := 8) X dX10_off_8 (by decide) hf (fun hf => ?_) (fun hf => ?_)
  · exact x_throw (e := 2) (pc := 11) X Y (by decide +kernel) tnames_ok w_359 w_50 thr_2_166 (thg_2_166 _) str_164 rfl (by decide) (by decide) dX10_off_11 dX10_off_14 dX10_off_15 dX10_off_17 dX10_off_20 hf
  · refine r_aload_n (x := some 0) (pc := 21) X dX10_off_21 0 rfl ?_
    refine r_iload_n (pc := 22) X dX10_off_22 2 rfl ?_
    refine bnd hf (fun x2 h2 hf => ?_)
    refine z_callVi (As := [.int p2]) (st := []) (pc := 23) X (c_f_P_isToCome h2) rfl w_325 w_327 w_0 w_36 w_328 hdV_X10_isToCome (Rc.s rfl ce_0) (by decide) (Nat.le_of_ble_eq_true rfl) dX10_off_23 rfl ?_
    refine b_if_ne (tgt := 39) (pc := 26) X dX10_off_26 (by decide) hf (fun hf => ?_) (fun hf => ?_)
    · exact x_throw (e := 0) (pc := 29) X Y (by decide +kernel) tnames_ok w_447 w_52 thr_0_82 (thg_0_82 _) str_170 rfl (by decide) (by decide) dX10_off_29 dX10_off_32 dX10_off_33 dX10_off_35 dX10_off_38 hf
    · refine r_aload_n (x := some 0) (pc := 39) X dX10_off_39 0 rfl ?_
      refine r_get (j := 6) (pc := 40) X ce_0 rfl inT10 (by decide) w_286 rfl dX10_off_40 ?_
      refine r_iload_n (pc := 43) X dX10_off_43 1 rfl ?_
      refine r_iload_n (pc := 44) X dX10_off_44 2 rfl ?_
      refine bnd hf (fun x3 h3 hf => ?_)
      refine z_callVv (As := [.int p1, .int p2]) (st := []) (pc := 45) X (c_f_Rota_turnOff h3) rfl w_622 w_623 w_624 w_38 w_625 hdV_X5_turnOff (Rc.s rfl ce_12) (by decide) (Nat.le_of_ble_eq_true rfl) dX10_off_45 rfl ?_
      refine r_aload_n (x := some 0) (pc := 48) X dX10_off_48 0 rfl ?_
      refine r_get (j := 6) (pc := 49) X ce_0 rfl inT10 (by decide) w_286 rfl dX10_off_49 ?_
      refine r_iload_n (pc := 52) X dX10_off_52 1 rfl ?_
      refine r_iload_n (pc := 53) X dX10_off_53 2 rfl ?_
      refine bnd hf (fun x4 h4 hf => ?_)
      refine z_callVi (As := [.int p1, .int p2]) (st := []) (pc := 54) X (c_f_Rota_isOff h4) rfl w_626 w_348 w_349 w_38 w_350 hdV_X5_isOff (Rc.s rfl ce_12) (by decide) (Nat.le_of_ble_eq_true rfl) dX10_off_54 rfl ?_
      refine ifo hf (fun hx hf => ?_)
      exact x_zret (pc := 57) X hr hx hf dX10_off_57
/-! f_P_swap -/
theorem dX10_swap_0 : decode cX10_swap 0 = .ok (.aload_n 0, 1) := by decide +kernel
theorem dX10_swap_1 : decode cX10_swap 1 = .ok (.iload_n 1, 1) := by decide +kernel
theorem dX10_swap_2 : decode cX10_swap 2 = .ok (.invokevirtual 167, 3) := by decide +kernel
theorem dX10_swap_5 : decode cX10_swap 5 = .ok (.ifCond .eq 16, 3) := by decide +kernel
theorem dX10_swap_8 : decode cX10_swap 8 = .ok (.aload_n 0, 1) := by decide +kernel
theorem dX10_swap_9 : decode cX10_swap 9 = .ok (.iload_n 2, 1) := by decide +kernel
theorem dX10_swap_10 : decode cX10_swap 10 = .ok (.invokevirtual 167, 3) := by decide +kernel
theorem dX10_swap_13 : decode cX10_swap 13 = .ok (.ifCond .eq 8, 3) := by decide +kernel
theorem dX10_swap_16 : decode cX10_swap 16 = .ok (.iload_n 1, 1) := by decide +kernel
theorem dX10_swap_17 : decode cX10_swap 17 = .ok (.iload_n 2, 1) := by decide +kernel
theorem dX10_swap_18 : decode cX10_swap 18 = .ok (.if_icmp .ne 13, 3) := by decide +kernel
theorem dX10_swap_21 : decode cX10_swap 21 = .ok (.new 78, 3) := by decide +kernel
theorem dX10_swap_24 : decode cX10_swap 24 = .ok (.dup, 1) := by decide +kernel
theorem dX10_swap_25 : decode cX10_swap 25 = .ok (.ldc 180, 2) := by decide +kernel
theorem dX10_swap_27 : decode cX10_swap 27 = .ok (.invokespecial 82, 3) := by decide +kernel
theorem dX10_swap_30 : decode cX10_swap 30 = .ok (.athrow, 1) := by decide +kernel
theorem dX10_swap_31 : decode cX10_swap 31 = .ok (.aload_n 0, 1) := by decide +kernel
theorem dX10_swap_32 : decode cX10_swap 32 = .ok (.getfield 39, 3) := by decide +kernel
theorem dX10_swap_35 : decode cX10_swap 35 = .ok (.iload_n 1, 1) := by decide +kernel
theorem dX10_swap_36 : decode cX10_swap 36 = .ok (.invokevirtual 182, 3) := by decide +kernel
theorem dX10_swap_39 : decode cX10_swap 39 = .ok (.istore_n 3, 1) := by decide +kernel
theorem dX10_swap_40 : decode cX10_swap 40 = .ok (.aload_n 0, 1) := by decide +kernel
theorem dX10_swap_41 : decode cX10_swap 41 = .ok (.getfield 39, 3) := by decide +kernel
theorem dX10_swap_44 : decode cX10_swap 44 = .ok (.iload_n 2, 1) := by decide +kernel
theorem dX10_swap_45 : decode cX10_swap 45 = .ok (.invokevirtual 182, 3) := by decide +kernel
theorem dX10_swap_48 : decode cX10_swap 48 = .ok (.istore 4, 2) := by decide +kernel
theorem dX10_swap_50 : decode cX10_swap 50 = .ok (.iload_n 3, 1) := by decide +kernel
theorem dX10_swap_51 : decode cX10_swap 51 = .ok (.iload 4, 2) := by decide +kernel
theorem dX10_swap_53 : decode cX10_swap 53 = .ok (.if_icmp .ne 13, 3) := by decide +kernel
theorem dX10_swap_56 : decode cX10_swap 56 = .ok (.new 85, 3) := by decide +kernel
theorem dX10_swap_59 : decode cX10_swap 59 = .ok (.dup, 1) := by decide +kernel
theorem dX10_swap_60 : decode cX10_swap 60 = .ok (.ldc 186, 2) := by decide +kernel
theorem dX10_swap_62 : decode cX10_swap 62 = .ok (.invokespecial 89, 3) := by decide +kernel
theorem dX10_swap_65 : decode cX10_swap 65 = .ok (.athrow, 1) := by decide +kernel
theorem dX10_swap_66 : decode cX10_swap 66 = .ok (.aload_n 0, 1) := by decide +kernel
theorem dX10_swap_67 : decode cX10_swap 67 = .ok (.getfield 39, 3) := by decide +kernel
theorem dX10_swap_70 : decode cX10_swap 70 = .ok (.iload_n 3, 1) := by decide +kernel
theorem dX10_swap_71 : decode cX10_swap 71 = .ok (.iload_n 2, 1) := by decide +kernel
theorem dX10_swap_72 : decode cX10_swap 72 = .ok (.invokevirtual 176, 3) := by decide +kernel
theorem dX10_swap_75 : decode cX10_swap 75 = .ok (.ifCond .ne 16, 3) := by decide +kernel
theorem dX10_swap_78 : decode cX10_swap 78 = .ok (.aload_n 0, 1) := by decide +kernel
theorem dX10_swap_79 : decode cX10_swap 79 = .ok (.getfield 39, 3) := by decide +kernel
theorem dX10_swap_82 : decode cX10_swap 82 = .ok (.iload 4, 2) := by decide +kernel
theorem dX10_swap_84 : decode cX10_swap 84 = .ok (.iload_n 1, 1) := by decide +kernel
theorem dX10_swap_85 : decode cX10_swap 85 = .ok (.invokevirtual 176, 3) := by decide +kernel
theorem dX10_swap_88 : decode cX10_swap 88 = .ok (.ifCond .eq 13, 3) := by decide +kernel
theorem dX10_swap_91 : decode cX10_swap 91 = .ok (.new 85, 3) := by decide +kernel
theorem dX10_swap_94 : decode cX10_swap 94 = .ok (.dup, 1) := by decide +kernel
theorem dX10_swap_95 : decode cX10_swap 95 = .ok (.ldc 188, 2) := by decide +kernel
theorem dX10_swap_97 : decode cX10_swap 97 = .ok (.invokespecial 89, 3) := by decide +kernel
theorem dX10_swap_100 : decode cX10_swap 100 = .ok (.athrow, 1) := by decide +kernel
theorem dX10_swap_101 : decode cX10_swap 101 = .ok (.aload_n 0, 1) := by decide +kernel
theorem dX10_swap_102 : decode cX10_swap 102 = .ok (.getfield 39, 3) := by decide +kernel
theorem dX10_swap_105 : decode cX10_swap 105 = .ok (.iload_n 1, 1) := by decide +kernel
theorem dX10_swap_106 : decode cX10_swap 106 = .ok (.iload 4, 2) := by decide +kernel
theorem dX10_swap_108 : decode cX10_swap 108 = .ok (.invokevirtual 190, 3) := by decide +kernel
theorem dX10_swap_111 : decode cX10_swap 111 = .ok (.aload_n 0, 1) := by decide +kernel
theorem dX10_swap_112 : decode cX10_swap 112 = .ok (.getfield 39, 3) := by decide +kernel
theorem dX10_swap_115 : decode cX10_swap 115 = .ok (.iload_n 2, 1) := by decide +kernel
theorem dX10_swap_116 : decode cX10_swap 116 = .ok (.iload_n 3, 1) := by decide +kernel
theorem dX10_swap_117 : decode cX10_swap 117 = .ok (.invokevirtual 190, 3) := by decide +kernel
theorem dX10_swap_120 : decode cX10_swap 120 = .ok (.return_, 1) := by decide +kernel
def f_P_swap (F Z : Nat) (s : St) (p1 : Int32) (p2 : Int32) : Option ((Unit ⊕ Nat) × St) :=
  (f_P_isToCome F s p1).bind fun x1 => (if x1.1 = 0 then
    (if sz x1.2 < Z then some (.inr 0, sz' x1.2 (sz x1.2 + 1)) else none)
  else
    ((f_P_isToCome F x1.2 p2).bind fun x2 => (if x2.1 = 0 then
      (if sz x2.2 < Z then some (.inr 0, sz' x2.2 (sz x2.2 + 1)) else none)
    else
      (if p1 = p2 then
        (if sz x2.2 < Z then some (.inr 0, sz' x2.2 (sz x2.2 + 1)) else none)
      else
        ((f_Rota_plannedFor F x2.2 p1).bind fun x3 => ((f_Rota_plannedFor F x3.2 p2).bind fun x4 => (if x3.1 = x4.1 then
          (if sz x4.2 < Z then some (.inr 1, sz' x4.2 (sz x4.2 + 1)) else none)
        else
          ((f_Rota_isOff F x4.2 x3.1 p2).bind fun x5 => (if x5.1 = 0 then
            ((f_Rota_isOff F x5.2 x4.1 p1).bind fun x6 => (if x6.1 = 0 then
              ((f_Rota_give F x6.2 p1 x4.1).bind fun x7 => ((f_Rota_give F x7 p2 x3.1).bind fun x8 => (some (.inl (), x8))))
            else
              (if sz x6.2 < Z then some (.inr 1, sz' x6.2 (sz x6.2 + 1)) else none)))
          else
            (if sz x5.2 < Z then some (.inr 1, sz' x5.2 (sz x5.2 + 1)) else none))))))))))
set_option maxHeartbeats 1000000 in
theorem c_f_P_swap {F Z : Nat} {s : St} {p1 : Int32} {p2 : Int32} {r : Unit ⊕ Nat} {s' : St} (hf : f_P_swap F Z s p1 p2 = some (r, s')) : CX true yX10_swap (Cond.code yX10_swap cX10_swap 5 none) (6) (90) (Z - sz s) (12 * (Z - sz s)) (fun B => [.ref (B + 0), .int p1, .int p2]) s (fun B => (ouV r)) s' (Z - sz s) (12 * (Z - sz s)) := by
  refine CX.ofX (fun B => [(0, .ref (B + 0)), (1, .int p1), (2, .int p2)]) (by decide +kernel) (fun _ => rfl) (fun _ => (by simp [lg_sl, rfB_cat, catI, catL, catR])) (fun Γ D B X Y hr => ?_)
  have X : Cx Γ RX10 cX10_swap 5 D B (RM Γ B Z (6) (90)) := X
  unfold f_P_swap at hf
  refine r_aload_n (x := some 0) (pc := 0) X dX10_swap_0 0 rfl ?_
  refine r_iload_n (pc := 1) X dX10_swap_1 1 rfl ?_
  refine bnd hf (fun x1 h1 hf => ?_)
  refine z_callVi (As := [.int p1]) (st := []) (pc := 2) X (c_f_P_isToCome h1) rfl w_325 w_327 w_0 w_36 w_328 hdV_X10_isToCome (Rc.s rfl ce_0) (by decide) (Nat.le_of_ble_eq_true rfl) dX10_swap_2 rfl ?_
  refine b_if_eq (tgt := 21) (pc := 5) X dX10_swap_5 (by decide) hf (fun hf => ?_) (fun hf => ?_)
  · exact x_throw (e := 0) (pc := 21) X Y (by decide +kernel) tnames_ok w_447 w_52 thr_0_82 (thg_0_82 _) str_180 rfl (by decide) (by decide) dX10_swap_21 dX10_swap_24 dX10_swap_25 dX10_swap_27 dX10_swap_30 hf
  · refine r_aload_n (x := some 0) (pc := 8) X dX10_swap_8 0 rfl ?_
    refine r_iload_n (pc := 9) X dX10_swap_9 2 rfl ?_
    refine bnd hf (fun x2 h2 hf => ?_)
    refine z_callVi (As := [.int p2]) (st := []) (pc := 10) X (c_f_P_isToCome h2) rfl w_325 w_327 w_0 w_36 w_328 hdV_X10_isToCome (Rc.s rfl ce_0) (by decide) (Nat.le_of_ble_eq_true rfl) dX10_swap_10 rfl ?_
    refine b_if_eq (tgt := 21) (pc := 13) X dX10_swap_13 (by decide) hf (fun hf => ?_) (fun hf => ?_)
    · exact x_throw (e := 0) (pc := 21) X Y (by decide +kernel) tnames_ok w_447 w_52 thr_0_82 (thg_0_82 _) str_180 rfl (by decide) (by decide) dX10_swap_21 dX10_swap_24 dX10_swap_25 dX10_swap_27 dX10_swap_30 hf
    · refine r_iload_n (pc := 16) X dX10_swap_16 1 rfl ?_
      refine r_iload_n (pc := 17) X dX10_swap_17 2 rfl ?_
      refine b_icmp_ne (tgt := 31) (pc := 18) X dX10_swap_18 (by decide) hf (fun hf => ?_) (fun hf => ?_)
      · exact x_throw (e := 0) (pc := 21) X Y (by decide +kernel) tnames_ok w_447 w_52 thr_0_82 (thg_0_82 _) str_180 rfl (by decide) (by decide) dX10_swap_21 dX10_swap_24 dX10_swap_25 dX10_swap_27 dX10_swap_30 hf
      · refine r_aload_n (x := some 0) (pc := 31) X dX10_swap_31 0 rfl ?_
        refine r_get (j := 6) (pc := 32) X ce_0 rfl inT10 (by decide) w_286 rfl dX10_swap_32 ?_
        refine r_iload_n (pc := 35) X dX10_swap_35 1 rfl ?_
        refine bnd hf (fun x3 h3 hf => ?_)
        refine z_callVi (As := [.int p1]) (st := []) (pc := 36) X (c_f_Rota_plannedFor h3) rfl w_805 w_338 w_339 w_38 w_340 hdV_X5_plannedFor (Rc.s rfl ce_12) (by decide) (Nat.le_of_ble_eq_true rfl) dX10_swap_36 rfl ?_
        refine r_istore_n (pc := 39) (lv' := [(0, .ref (B + 0)), (1, .int p1), (2, .int p2), (3, .int x3.1)]) X dX10_swap_39 (by decide) [1, 2, 3, 0] rfl ?_
        refine r_aload_n (x := some 0) (pc := 40) X dX10_swap_40 0 rfl ?_
        refine r_get (j := 6) (pc := 41) X ce_0 rfl inT10 (by decide) w_286 rfl dX10_swap_41 ?_
        refine r_iload_n (pc := 44) X dX10_swap_44 2 rfl ?_
        refine bnd hf (fun x4 h4 hf => ?_)
        refine z_callVi (As := [.int p2]) (st := []) (pc := 45) X (c_f_Rota_plannedFor h4) rfl w_805 w_338 w_339 w_38 w_340 hdV_X5_plannedFor (Rc.s rfl ce_12) (by decide) (Nat.le_of_ble_eq_true rfl) dX10_swap_45 rfl ?_
        refine r_istore (pc := 48) (lv' := [(0, .ref (B + 0)), (1, .int p1), (2, .int p2), (3, .int x3.1), (4, .int x4.1)]) X dX10_swap_48 (by decide) [1, 2, 3, 4, 0] rfl ?_
        refine r_iload_n (pc := 50) X dX10_swap_50 3 rfl ?_
        refine r_iload (pc := 51) X dX10_swap_51 4 rfl ?_
        refine b_icmp_ne (tgt := 66) (pc := 53) X dX10_swap_53 (by decide) hf (fun hf => ?_) (fun hf => ?_)
        · exact x_throw (e := 1) (pc := 56) X Y (by decide +kernel) tnames_ok w_463 w_53 thr_1_89 (thg_1_89 _) str_186 rfl (by decide) (by decide) dX10_swap_56 dX10_swap_59 dX10_swap_60 dX10_swap_62 dX10_swap_65 hf
        · refine r_aload_n (x := some 0) (pc := 66) X dX10_swap_66 0 rfl ?_
          refine r_get (j := 6) (pc := 67) X ce_0 rfl inT10 (by decide) w_286 rfl dX10_swap_67 ?_
          refine r_iload_n (pc := 70) X dX10_swap_70 3 rfl ?_
          refine r_iload_n (pc := 71) X dX10_swap_71 2 rfl ?_
          refine bnd hf (fun x5 h5 hf => ?_)
          refine z_callVi (As := [.int x3.1, .int p2]) (st := []) (pc := 72) X (c_f_Rota_isOff h5) rfl w_626 w_348 w_349 w_38 w_350 hdV_X5_isOff (Rc.s rfl ce_12) (by decide) (Nat.le_of_ble_eq_true rfl) dX10_swap_72 rfl ?_
          refine b_if_ne (tgt := 91) (pc := 75) X dX10_swap_75 (by decide) hf (fun hf => ?_) (fun hf => ?_)
          · refine r_aload_n (x := some 0) (pc := 78) X dX10_swap_78 0 rfl ?_
            refine r_get (j := 6) (pc := 79) X ce_0 rfl inT10 (by decide) w_286 rfl dX10_swap_79 ?_
            refine r_iload (pc := 82) X dX10_swap_82 4 rfl ?_
            refine r_iload_n (pc := 84) X dX10_swap_84 1 rfl ?_
            refine bnd hf (fun x6 h6 hf => ?_)
            refine z_callVi (As := [.int x4.1, .int p1]) (st := []) (pc := 85) X (c_f_Rota_isOff h6) rfl w_626 w_348 w_349 w_38 w_350 hdV_X5_isOff (Rc.s rfl ce_12) (by decide) (Nat.le_of_ble_eq_true rfl) dX10_swap_85 rfl ?_
            refine b_if_eq (tgt := 101) (pc := 88) X dX10_swap_88 (by decide) hf (fun hf => ?_) (fun hf => ?_)
            · refine r_aload_n (x := some 0) (pc := 101) X dX10_swap_101 0 rfl ?_
              refine r_get (j := 6) (pc := 102) X ce_0 rfl inT10 (by decide) w_286 rfl dX10_swap_102 ?_
              refine r_iload_n (pc := 105) X dX10_swap_105 1 rfl ?_
              refine r_iload (pc := 106) X dX10_swap_106 4 rfl ?_
              refine bnd hf (fun x7 h7 hf => ?_)
              refine z_callVv (As := [.int p1, .int x4.1]) (st := []) (pc := 108) X (c_f_Rota_give h7) rfl w_1002 w_1003 w_1004 w_38 w_1005 hdV_X5_give (Rc.s rfl ce_12) (by decide) (Nat.le_of_ble_eq_true rfl) dX10_swap_108 rfl ?_
              refine r_aload_n (x := some 0) (pc := 111) X dX10_swap_111 0 rfl ?_
              refine r_get (j := 6) (pc := 112) X ce_0 rfl inT10 (by decide) w_286 rfl dX10_swap_112 ?_
              refine r_iload_n (pc := 115) X dX10_swap_115 2 rfl ?_
              refine r_iload_n (pc := 116) X dX10_swap_116 3 rfl ?_
              refine bnd hf (fun x8 h8 hf => ?_)
              refine z_callVv (As := [.int p2, .int x3.1]) (st := []) (pc := 117) X (c_f_Rota_give h8) rfl w_1002 w_1003 w_1004 w_38 w_1005 hdV_X5_give (Rc.s rfl ce_12) (by decide) (Nat.le_of_ble_eq_true rfl) dX10_swap_117 rfl ?_
              exact x_vret (pc := 120) X hr hf dX10_swap_120
            · exact x_throw (e := 1) (pc := 91) X Y (by decide +kernel) tnames_ok w_463 w_53 thr_1_89 (thg_1_89 _) str_188 rfl (by decide) (by decide) dX10_swap_91 dX10_swap_94 dX10_swap_95 dX10_swap_97 dX10_swap_100 hf
          · exact x_throw (e := 1) (pc := 91) X Y (by decide +kernel) tnames_ok w_463 w_53 thr_1_89 (thg_1_89 _) str_188 rfl (by decide) (by decide) dX10_swap_91 dX10_swap_94 dX10_swap_95 dX10_swap_97 dX10_swap_100 hf
/-! f_P_planned -/
theorem dX10_planned_0 : decode cX10_planned 0 = .ok (.aload_n 0, 1) := by decide +kernel
theorem dX10_planned_1 : decode cX10_planned 1 = .ok (.iload_n 1, 1) := by decide +kernel
theorem dX10_planned_2 : decode cX10_planned 2 = .ok (.invokevirtual 167, 3) := by decide +kernel
theorem dX10_planned_5 : decode cX10_planned 5 = .ok (.ifCond .ne 13, 3) := by decide +kernel
theorem dX10_planned_8 : decode cX10_planned 8 = .ok (.new 78, 3) := by decide +kernel
theorem dX10_planned_11 : decode cX10_planned 11 = .ok (.dup, 1) := by decide +kernel
theorem dX10_planned_12 : decode cX10_planned 12 = .ok (.ldc 170, 2) := by decide +kernel
theorem dX10_planned_14 : decode cX10_planned 14 = .ok (.invokespecial 82, 3) := by decide +kernel
theorem dX10_planned_17 : decode cX10_planned 17 = .ok (.athrow, 1) := by decide +kernel
theorem dX10_planned_18 : decode cX10_planned 18 = .ok (.aload_n 0, 1) := by decide +kernel
theorem dX10_planned_19 : decode cX10_planned 19 = .ok (.getfield 39, 3) := by decide +kernel
theorem dX10_planned_22 : decode cX10_planned 22 = .ok (.iload_n 1, 1) := by decide +kernel
theorem dX10_planned_23 : decode cX10_planned 23 = .ok (.invokevirtual 182, 3) := by decide +kernel
theorem dX10_planned_26 : decode cX10_planned 26 = .ok (.ireturn, 1) := by decide +kernel
def f_P_planned (F Z : Nat) (s : St) (p1 : Int32) : Option ((Int32 ⊕ Nat) × St) :=
  (f_P_isToCome F s p1).bind fun x1 => (if x1.1 = 0 then
    (if sz x1.2 < Z then some (.inr 0, sz' x1.2 (sz x1.2 + 1)) else none)
  else
    ((f_Rota_plannedFor F x1.2 p1).bind fun x2 => (some (.inl x2.1, x2.2))))
set_option maxHeartbeats 1000000 in
theorem c_f_P_planned {F Z : Nat} {s : St} {p1 : Int32} {r : Int32 ⊕ Nat} {s' : St} (hf : f_P_planned F Z s p1 = some (r, s')) : CX true yX10_planned (Cond.code yX10_planned cX10_planned 2 (some .int)) (6) (90) (Z - sz s) (12 * (Z - sz s)) (fun B => [.ref (B + 0), .int p1]) s (fun B => (ouI r)) s' (Z - sz s) (12 * (Z - sz s)) := by
  refine CX.ofX (fun B => [(0, .ref (B + 0)), (1, .int p1)]) (by decide +kernel) (fun _ => rfl) (fun _ => (by simp [lg_sl, rfB_cat, catI, catL, catR])) (fun Γ D B X Y hr => ?_)
  have X : Cx Γ RX10 cX10_planned 2 D B (RM Γ B Z (6) (90)) := X
  unfold f_P_planned at hf
  refine r_aload_n (x := some 0) (pc := 0) X dX10_planned_0 0 rfl ?_
  refine r_iload_n (pc := 1) X dX10_planned_1 1 rfl ?_
  refine bnd hf (fun x1 h1 hf => ?_)
  refine z_callVi (As := [.int p1]) (st := []) (pc := 2) X (c_f_P_isToCome h1) rfl w_325 w_327 w_0 w_36 w_328 hdV_X10_isToCome (Rc.s rfl ce_0) (by decide) (Nat.le_of_ble_eq_true rfl) dX10_planned_2 rfl ?_
  refine b_if_ne (tgt := 18) (pc := 5) X dX10_planned_5 (by decide) hf (fun hf => ?_) (fun hf => ?_)
  · exact x_throw (e := 0) (pc := 8) X Y (by decide +kernel) tnames_ok w_447 w_52 thr_0_82 (thg_0_82 _) str_170 rfl (by decide) (by decide) dX10_planned_8 dX10_planned_11 dX10_planned_12 dX10_planned_14 dX10_planned_17 hf
  · refine r_aload_n (x := some 0) (pc := 18) X dX10_planned_18 0 rfl ?_
    refine r_get (j := 6) (pc := 19) X ce_0 rfl inT10 (by decide) w_286 rfl dX10_planned_19 ?_
    refine r_iload_n (pc := 22) X dX10_planned_22 1 rfl ?_
    refine bnd hf (fun x2 h2 hf => ?_)
    refine z_callVi (As := [.int p1]) (st := []) (pc := 23) X (c_f_Rota_plannedFor h2) rfl w_805 w_338 w_339 w_38 w_340 hdV_X5_plannedFor (Rc.s rfl ce_12) (by decide) (Nat.le_of_ble_eq_true rfl) dX10_planned_23 rfl ?_
    exact x_iret (pc := 26) X hr hf dX10_planned_26
/-! f_P_holder -/
theorem dX10_holder_0 : decode cX10_holder 0 = .ok (.iload_n 1, 1) := by decide +kernel
theorem dX10_holder_1 : decode cX10_holder 1 = .ok (.iconst 0, 1) := by decide +kernel
theorem dX10_holder_2 : decode cX10_holder 2 = .ok (.aload_n 0, 1) := by decide +kernel
theorem dX10_holder_3 : decode cX10_holder 3 = .ok (.getfield 17, 3) := by decide +kernel
theorem dX10_holder_6 : decode cX10_holder 6 = .ok (.bipush 8, 2) := by decide +kernel
theorem dX10_holder_8 : decode cX10_holder 8 = .ok (.idiv, 1) := by decide +kernel
theorem dX10_holder_9 : decode cX10_holder 9 = .ok (.invokestatic 128, 3) := by decide +kernel
theorem dX10_holder_12 : decode cX10_holder 12 = .ok (.ifCond .ne 13, 3) := by decide +kernel
theorem dX10_holder_15 : decode cX10_holder 15 = .ok (.new 78, 3) := by decide +kernel
theorem dX10_holder_18 : decode cX10_holder 18 = .ok (.dup, 1) := by decide +kernel
theorem dX10_holder_19 : decode cX10_holder 19 = .ok (.ldc 170, 2) := by decide +kernel
theorem dX10_holder_21 : decode cX10_holder 21 = .ok (.invokespecial 82, 3) := by decide +kernel
theorem dX10_holder_24 : decode cX10_holder 24 = .ok (.athrow, 1) := by decide +kernel
theorem dX10_holder_25 : decode cX10_holder 25 = .ok (.aload_n 0, 1) := by decide +kernel
theorem dX10_holder_26 : decode cX10_holder 26 = .ok (.getfield 39, 3) := by decide +kernel
theorem dX10_holder_29 : decode cX10_holder 29 = .ok (.iload_n 1, 1) := by decide +kernel
theorem dX10_holder_30 : decode cX10_holder 30 = .ok (.invokevirtual 196, 3) := by decide +kernel
theorem dX10_holder_33 : decode cX10_holder 33 = .ok (.ireturn, 1) := by decide +kernel
def f_P_holder (F Z : Nat) (s : St) (p1 : Int32) : Option ((Int32 ⊕ Nat) × St) :=
  (f_P_isIn F s p1 0 ((gI s 2) / 8)).bind fun x1 => (if x1.1 = 0 then
    (if sz x1.2 < Z then some (.inr 0, sz' x1.2 (sz x1.2 + 1)) else none)
  else
    ((f_Rota_holderOf F x1.2 p1).bind fun x2 => (some (.inl x2.1, x2.2))))
set_option maxHeartbeats 1000000 in
theorem c_f_P_holder {F Z : Nat} {s : St} {p1 : Int32} {r : Int32 ⊕ Nat} {s' : St} (hf : f_P_holder F Z s p1 = some (r, s')) : CX true yX10_holder (Cond.code yX10_holder cX10_holder 2 (some .int)) (6) (90) (Z - sz s) (12 * (Z - sz s)) (fun B => [.ref (B + 0), .int p1]) s (fun B => (ouI r)) s' (Z - sz s) (12 * (Z - sz s)) := by
  refine CX.ofX (fun B => [(0, .ref (B + 0)), (1, .int p1)]) (by decide +kernel) (fun _ => rfl) (fun _ => (by simp [lg_sl, rfB_cat, catI, catL, catR])) (fun Γ D B X Y hr => ?_)
  have X : Cx Γ RX10 cX10_holder 2 D B (RM Γ B Z (6) (90)) := X
  unfold f_P_holder at hf
  refine r_iload_n (pc := 0) X dX10_holder_0 1 rfl ?_
  refine r_iconst (v := 0) (pc := 1) X dX10_holder_1 (by decide) ?_
  refine r_aload_n (x := some 0) (pc := 2) X dX10_holder_2 0 rfl ?_
  refine r_get (j := 2) (pc := 3) X ce_0 rfl inT10 (by decide) w_282 rfl dX10_holder_3 ?_
  refine r_bipush (v := 8) (pc := 6) X dX10_holder_6 (by decide) ?_
  refine r_idiv (pc := 8) X dX10_holder_8 (by decide) ?_
  refine bnd hf (fun x1 h1 hf => ?_)
  refine z_callSi (As := [.int p1, .int 0, .int ((gI s 2) / 8)]) (st := []) (pc := 9) X (c_f_P_isIn h1) rfl w_483 w_342 w_36 w_343 hdS_X10_isIn (by decide) (Nat.le_of_ble_eq_true rfl) dX10_holder_9 rfl ?_
  refine b_if_ne (tgt := 25) (pc := 12) X dX10_holder_12 (by decide) hf (fun hf => ?_) (fun hf => ?_)
  · exact x_throw (e := 0) (pc := 15) X Y (by decide +kernel) tnames_ok w_447 w_52 thr_0_82 (thg_0_82 _) str_170 rfl (by decide) (by decide) dX10_holder_15 dX10_holder_18 dX10_holder_19 dX10_holder_21 dX10_holder_24 hf
  · refine r_aload_n (x := some 0) (pc := 25) X dX10_holder_25 0 rfl ?_
    refine r_get (j := 6) (pc := 26) X ce_0 rfl inT10 (by decide) w_286 rfl dX10_holder_26 ?_
    refine r_iload_n (pc := 29) X dX10_holder_29 1 rfl ?_
    refine bnd hf (fun x2 h2 hf => ?_)
    refine z_callVi (As := [.int p1]) (st := []) (pc := 30) X (c_f_Rota_holderOf h2) rfl w_499 w_500 w_501 w_38 w_502 hdV_X5_holderOf (Rc.s rfl ce_12) (by decide) (Nat.le_of_ble_eq_true rfl) dX10_holder_30 rfl ?_
    exact x_iret (pc := 33) X hr hf dX10_holder_33
/-! f_P_nights -/
theorem dX10_nights_0 : decode cX10_nights 0 = .ok (.aload_n 0, 1) := by decide +kernel
theorem dX10_nights_1 : decode cX10_nights 1 = .ok (.getfield 39, 3) := by decide +kernel
theorem dX10_nights_4 : decode cX10_nights 4 = .ok (.iload_n 1, 1) := by decide +kernel
theorem dX10_nights_5 : decode cX10_nights 5 = .ok (.invokevirtual 158, 3) := by decide +kernel
theorem dX10_nights_8 : decode cX10_nights 8 = .ok (.ifCond .ne 13, 3) := by decide +kernel
theorem dX10_nights_11 : decode cX10_nights 11 = .ok (.new 162, 3) := by decide +kernel
theorem dX10_nights_14 : decode cX10_nights 14 = .ok (.dup, 1) := by decide +kernel
theorem dX10_nights_15 : decode cX10_nights 15 = .ok (.ldc 164, 2) := by decide +kernel
theorem dX10_nights_17 : decode cX10_nights 17 = .ok (.invokespecial 166, 3) := by decide +kernel
theorem dX10_nights_20 : decode cX10_nights 20 = .ok (.athrow, 1) := by decide +kernel
theorem dX10_nights_21 : decode cX10_nights 21 = .ok (.aload_n 0, 1) := by decide +kernel
theorem dX10_nights_22 : decode cX10_nights 22 = .ok (.getfield 39, 3) := by decide +kernel
theorem dX10_nights_25 : decode cX10_nights 25 = .ok (.iload_n 1, 1) := by decide +kernel
theorem dX10_nights_26 : decode cX10_nights 26 = .ok (.invokevirtual 199, 3) := by decide +kernel
theorem dX10_nights_29 : decode cX10_nights 29 = .ok (.ireturn, 1) := by decide +kernel
def f_P_nights (F Z : Nat) (s : St) (p1 : Int32) : Option ((Int32 ⊕ Nat) × St) :=
  (f_Rota_hasPerson F s p1).bind fun x1 => (if x1.1 = 0 then
    (if sz x1.2 < Z then some (.inr 2, sz' x1.2 (sz x1.2 + 1)) else none)
  else
    ((f_Rota_nightsOf F x1.2 p1).bind fun x2 => (some (.inl x2.1, x2.2))))
set_option maxHeartbeats 1000000 in
theorem c_f_P_nights {F Z : Nat} {s : St} {p1 : Int32} {r : Int32 ⊕ Nat} {s' : St} (hf : f_P_nights F Z s p1 = some (r, s')) : CX true yX10_nights (Cond.code yX10_nights cX10_nights 2 (some .int)) (6) (90) (Z - sz s) (12 * (Z - sz s)) (fun B => [.ref (B + 0), .int p1]) s (fun B => (ouI r)) s' (Z - sz s) (12 * (Z - sz s)) := by
  refine CX.ofX (fun B => [(0, .ref (B + 0)), (1, .int p1)]) (by decide +kernel) (fun _ => rfl) (fun _ => (by simp [lg_sl, rfB_cat, catI, catL, catR])) (fun Γ D B X Y hr => ?_)
  have X : Cx Γ RX10 cX10_nights 2 D B (RM Γ B Z (6) (90)) := X
  unfold f_P_nights at hf
  refine r_aload_n (x := some 0) (pc := 0) X dX10_nights_0 0 rfl ?_
  refine r_get (j := 6) (pc := 1) X ce_0 rfl inT10 (by decide) w_286 rfl dX10_nights_1 ?_
  refine r_iload_n (pc := 4) X dX10_nights_4 1 rfl ?_
  refine bnd hf (fun x1 h1 hf => ?_)
  refine z_callVi (As := [.int p1]) (st := []) (pc := 5) X (c_f_Rota_hasPerson h1) rfl w_616 w_617 w_618 w_38 w_619 hdV_X5_hasPerson (Rc.s rfl ce_12) (by decide) (Nat.le_of_ble_eq_true rfl) dX10_nights_5 rfl ?_
  refine b_if_ne (tgt := 21) (pc := 8) X dX10_nights_8 (by decide) hf (fun hf => ?_) (fun hf => ?_)
  · exact x_throw (e := 2) (pc := 11) X Y (by decide +kernel) tnames_ok w_359 w_50 thr_2_166 (thg_2_166 _) str_164 rfl (by decide) (by decide) dX10_nights_11 dX10_nights_14 dX10_nights_15 dX10_nights_17 dX10_nights_20 hf
  · refine r_aload_n (x := some 0) (pc := 21) X dX10_nights_21 0 rfl ?_
    refine r_get (j := 6) (pc := 22) X ce_0 rfl inT10 (by decide) w_286 rfl dX10_nights_22 ?_
    refine r_iload_n (pc := 25) X dX10_nights_25 1 rfl ?_
    refine bnd hf (fun x2 h2 hf => ?_)
    refine z_callVi (As := [.int p1]) (st := []) (pc := 26) X (c_f_Rota_nightsOf h2) rfl w_814 w_815 w_816 w_38 w_817 hdV_X5_nightsOf (Rc.s rfl ce_12) (by decide) (Nat.le_of_ble_eq_true rfl) dX10_nights_26 rfl ?_
    exact x_iret (pc := 29) X hr hf dX10_nights_29
/-! f_P_owes -/
theorem dX10_owes_0 : decode cX10_owes 0 = .ok (.aload_n 0, 1) := by decide +kernel
theorem dX10_owes_1 : decode cX10_owes 1 = .ok (.getfield 39, 3) := by decide +kernel
theorem dX10_owes_4 : decode cX10_owes 4 = .ok (.iload_n 1, 1) := by decide +kernel
theorem dX10_owes_5 : decode cX10_owes 5 = .ok (.invokevirtual 158, 3) := by decide +kernel
theorem dX10_owes_8 : decode cX10_owes 8 = .ok (.ifCond .eq 14, 3) := by decide +kernel
theorem dX10_owes_11 : decode cX10_owes 11 = .ok (.aload_n 0, 1) := by decide +kernel
theorem dX10_owes_12 : decode cX10_owes 12 = .ok (.getfield 39, 3) := by decide +kernel
theorem dX10_owes_15 : decode cX10_owes 15 = .ok (.iload_n 2, 1) := by decide +kernel
theorem dX10_owes_16 : decode cX10_owes 16 = .ok (.invokevirtual 158, 3) := by decide +kernel
theorem dX10_owes_19 : decode cX10_owes 19 = .ok (.ifCond .ne 13, 3) := by decide +kernel
theorem dX10_owes_22 : decode cX10_owes 22 = .ok (.new 162, 3) := by decide +kernel
theorem dX10_owes_25 : decode cX10_owes 25 = .ok (.dup, 1) := by decide +kernel
theorem dX10_owes_26 : decode cX10_owes 26 = .ok (.ldc 164, 2) := by decide +kernel
theorem dX10_owes_28 : decode cX10_owes 28 = .ok (.invokespecial 166, 3) := by decide +kernel
theorem dX10_owes_31 : decode cX10_owes 31 = .ok (.athrow, 1) := by decide +kernel
theorem dX10_owes_32 : decode cX10_owes 32 = .ok (.aload_n 0, 1) := by decide +kernel
theorem dX10_owes_33 : decode cX10_owes 33 = .ok (.getfield 39, 3) := by decide +kernel
theorem dX10_owes_36 : decode cX10_owes 36 = .ok (.iload_n 1, 1) := by decide +kernel
theorem dX10_owes_37 : decode cX10_owes 37 = .ok (.iload_n 2, 1) := by decide +kernel
theorem dX10_owes_38 : decode cX10_owes 38 = .ok (.invokevirtual 202, 3) := by decide +kernel
theorem dX10_owes_41 : decode cX10_owes 41 = .ok (.ireturn, 1) := by decide +kernel
def f_P_owes (F Z : Nat) (s : St) (p1 : Int32) (p2 : Int32) : Option ((Int32 ⊕ Nat) × St) :=
  (f_Rota_hasPerson F s p1).bind fun x1 => (if x1.1 = 0 then
    (if sz x1.2 < Z then some (.inr 2, sz' x1.2 (sz x1.2 + 1)) else none)
  else
    ((f_Rota_hasPerson F x1.2 p2).bind fun x2 => (if x2.1 = 0 then
      (if sz x2.2 < Z then some (.inr 2, sz' x2.2 (sz x2.2 + 1)) else none)
    else
      ((f_Rota_debtsOf F x2.2 p1 p2).bind fun x3 => (some (.inl x3.1, x3.2))))))
set_option maxHeartbeats 1000000 in
theorem c_f_P_owes {F Z : Nat} {s : St} {p1 : Int32} {p2 : Int32} {r : Int32 ⊕ Nat} {s' : St} (hf : f_P_owes F Z s p1 p2 = some (r, s')) : CX true yX10_owes (Cond.code yX10_owes cX10_owes 3 (some .int)) (6) (90) (Z - sz s) (12 * (Z - sz s)) (fun B => [.ref (B + 0), .int p1, .int p2]) s (fun B => (ouI r)) s' (Z - sz s) (12 * (Z - sz s)) := by
  refine CX.ofX (fun B => [(0, .ref (B + 0)), (1, .int p1), (2, .int p2)]) (by decide +kernel) (fun _ => rfl) (fun _ => (by simp [lg_sl, rfB_cat, catI, catL, catR])) (fun Γ D B X Y hr => ?_)
  have X : Cx Γ RX10 cX10_owes 3 D B (RM Γ B Z (6) (90)) := X
  unfold f_P_owes at hf
  refine r_aload_n (x := some 0) (pc := 0) X dX10_owes_0 0 rfl ?_
  refine r_get (j := 6) (pc := 1) X ce_0 rfl inT10 (by decide) w_286 rfl dX10_owes_1 ?_
  refine r_iload_n (pc := 4) X dX10_owes_4 1 rfl ?_
  refine bnd hf (fun x1 h1 hf => ?_)
  refine z_callVi (As := [.int p1]) (st := []) (pc := 5) X (c_f_Rota_hasPerson h1) rfl w_616 w_617 w_618 w_38 w_619 hdV_X5_hasPerson (Rc.s rfl ce_12) (by decide) (Nat.le_of_ble_eq_true rfl) dX10_owes_5 rfl ?_
  refine b_if_eq (tgt := 22) (pc := 8) X dX10_owes_8 (by decide) hf (fun hf => ?_) (fun hf => ?_)
  · exact x_throw (e := 2) (pc := 22) X Y (by decide +kernel) tnames_ok w_359 w_50 thr_2_166 (thg_2_166 _) str_164 rfl (by decide) (by decide) dX10_owes_22 dX10_owes_25 dX10_owes_26 dX10_owes_28 dX10_owes_31 hf
  · refine r_aload_n (x := some 0) (pc := 11) X dX10_owes_11 0 rfl ?_
    refine r_get (j := 6) (pc := 12) X ce_0 rfl inT10 (by decide) w_286 rfl dX10_owes_12 ?_
    refine r_iload_n (pc := 15) X dX10_owes_15 2 rfl ?_
    refine bnd hf (fun x2 h2 hf => ?_)
    refine z_callVi (As := [.int p2]) (st := []) (pc := 16) X (c_f_Rota_hasPerson h2) rfl w_616 w_617 w_618 w_38 w_619 hdV_X5_hasPerson (Rc.s rfl ce_12) (by decide) (Nat.le_of_ble_eq_true rfl) dX10_owes_16 rfl ?_
    refine b_if_ne (tgt := 32) (pc := 19) X dX10_owes_19 (by decide) hf (fun hf => ?_) (fun hf => ?_)
    · exact x_throw (e := 2) (pc := 22) X Y (by decide +kernel) tnames_ok w_359 w_50 thr_2_166 (thg_2_166 _) str_164 rfl (by decide) (by decide) dX10_owes_22 dX10_owes_25 dX10_owes_26 dX10_owes_28 dX10_owes_31 hf
    · refine r_aload_n (x := some 0) (pc := 32) X dX10_owes_32 0 rfl ?_
      refine r_get (j := 6) (pc := 33) X ce_0 rfl inT10 (by decide) w_286 rfl dX10_owes_33 ?_
      refine r_iload_n (pc := 36) X dX10_owes_36 1 rfl ?_
      refine r_iload_n (pc := 37) X dX10_owes_37 2 rfl ?_
      refine bnd hf (fun x3 h3 hf => ?_)
      refine z_callVi (As := [.int p1, .int p2]) (st := []) (pc := 38) X (c_f_Rota_debtsOf h3) rfl w_822 w_823 w_824 w_38 w_825 hdV_X5_debtsOf (Rc.s rfl ce_12) (by decide) (Nat.le_of_ble_eq_true rfl) dX10_owes_38 rfl ?_
      exact x_iret (pc := 41) X hr hf dX10_owes_41
/-! f_Rule_init -/
theorem dX6_init_0 : decode cX6_init 0 = .ok (.aload_n 0, 1) := by decide +kernel
theorem dX6_init_1 : decode cX6_init 1 = .ok (.invokespecial 3, 3) := by decide +kernel
theorem dX6_init_4 : decode cX6_init 4 = .ok (.aload_n 0, 1) := by decide +kernel
theorem dX6_init_5 : decode cX6_init 5 = .ok (.iconst (-1), 1) := by decide +kernel
theorem dX6_init_6 : decode cX6_init 6 = .ok (.putfield 9, 3) := by decide +kernel
theorem dX6_init_9 : decode cX6_init 9 = .ok (.aload_n 0, 1) := by decide +kernel
theorem dX6_init_10 : decode cX6_init 10 = .ok (.iconst 5, 1) := by decide +kernel
theorem dX6_init_11 : decode cX6_init 11 = .ok (.newarray .int, 2) := by decide +kernel
theorem dX6_init_13 : decode cX6_init 13 = .ok (.putfield 15, 3) := by decide +kernel
theorem dX6_init_16 : decode cX6_init 16 = .ok (.aload_n 0, 1) := by decide +kernel
theorem dX6_init_17 : decode cX6_init 17 = .ok (.iconst 5, 1) := by decide +kernel
theorem dX6_init_18 : decode cX6_init 18 = .ok (.newarray .int, 2) := by decide +kernel
theorem dX6_init_20 : decode cX6_init 20 = .ok (.putfield 19, 3) := by decide +kernel
theorem dX6_init_23 : decode cX6_init 23 = .ok (.aload_n 0, 1) := by decide +kernel
theorem dX6_init_24 : decode cX6_init 24 = .ok (.iconst 0, 1) := by decide +kernel
theorem dX6_init_25 : decode cX6_init 25 = .ok (.putfield 22, 3) := by decide +kernel
theorem dX6_init_28 : decode cX6_init 28 = .ok (.aload_n 0, 1) := by decide +kernel
theorem dX6_init_29 : decode cX6_init 29 = .ok (.iconst 0, 1) := by decide +kernel
theorem dX6_init_30 : decode cX6_init 30 = .ok (.putfield 25, 3) := by decide +kernel
theorem dX6_init_33 : decode cX6_init 33 = .ok (.aload_n 0, 1) := by decide +kernel
theorem dX6_init_34 : decode cX6_init 34 = .ok (.iconst (-1), 1) := by decide +kernel
theorem dX6_init_35 : decode cX6_init 35 = .ok (.putfield 28, 3) := by decide +kernel
theorem dX6_init_38 : decode cX6_init 38 = .ok (.aload_n 0, 1) := by decide +kernel
theorem dX6_init_39 : decode cX6_init 39 = .ok (.aload_n 1, 1) := by decide +kernel
theorem dX6_init_40 : decode cX6_init 40 = .ok (.putfield 31, 3) := by decide +kernel
theorem dX6_init_43 : decode cX6_init 43 = .ok (.aload_n 0, 1) := by decide +kernel
theorem dX6_init_44 : decode cX6_init 44 = .ok (.iload_n 2, 1) := by decide +kernel
theorem dX6_init_45 : decode cX6_init 45 = .ok (.putfield 35, 3) := by decide +kernel
theorem dX6_init_48 : decode cX6_init 48 = .ok (.aload_n 0, 1) := by decide +kernel
theorem dX6_init_49 : decode cX6_init 49 = .ok (.iload_n 3, 1) := by decide +kernel
theorem dX6_init_50 : decode cX6_init 50 = .ok (.putfield 38, 3) := by decide +kernel
theorem dX6_init_53 : decode cX6_init 53 = .ok (.aload_n 0, 1) := by decide +kernel
theorem dX6_init_54 : decode cX6_init 54 = .ok (.iload 4, 2) := by decide +kernel
theorem dX6_init_56 : decode cX6_init 56 = .ok (.putfield 41, 3) := by decide +kernel
theorem dX6_init_59 : decode cX6_init 59 = .ok (.aload_n 0, 1) := by decide +kernel
theorem dX6_init_60 : decode cX6_init 60 = .ok (.iload 5, 2) := by decide +kernel
theorem dX6_init_62 : decode cX6_init 62 = .ok (.putfield 44, 3) := by decide +kernel
theorem dX6_init_65 : decode cX6_init 65 = .ok (.return_, 1) := by decide +kernel
def f_Rule_init (F : Nat) (s : St) (p0 : Option Nat) (p1 : Option Nat) (p2 : Int32) (p3 : Int32) (p4 : Int32) (p5 : Int32) : Option (St) :=
  (dgo s p0 6).bind fun _ => ((dgo s p0 6).bind fun o1 => (lt (sF s o1 6 (ups o1.2.1 5 (-1), o1.2.2)) fun s2 => (lt (sN s2 (.inr (.inl (1, 5, fun _ => 0)))) fun s3 => ((dgo s3 p0 6).bind fun o4 => (lt (sF s3 o4 6 (o4.2.1, ups o4.2.2.1 6 (some (sz s2)), o4.2.2.2)) fun s5 => (lt (sN s5 (.inr (.inl (1, 5, fun _ => 0)))) fun s6 => ((dgo s6 p0 6).bind fun o7 => (lt (sF s6 o7 6 (o7.2.1, ups o7.2.2.1 7 (some (sz s5)), o7.2.2.2)) fun s8 => ((dgo s8 p0 6).bind fun o9 => (lt (sF s8 o9 6 (ups o9.2.1 8 0, o9.2.2)) fun s10 => ((dgo s10 p0 6).bind fun o11 => (lt (sF s10 o11 6 (ups o11.2.1 9 0, o11.2.2)) fun s12 => ((dgo s12 p0 6).bind fun o13 => (lt (sF s12 o13 6 (ups o13.2.1 10 (-1), o13.2.2)) fun s14 => ((dgo s14 p0 6).bind fun o15 => (lt (sF s14 o15 6 (o15.2.1, ups o15.2.2.1 0 p1, o15.2.2.2)) fun s16 => ((dgo s16 p0 6).bind fun o17 => (lt (sF s16 o17 6 (ups o17.2.1 1 p2, o17.2.2)) fun s18 => ((dgo s18 p0 6).bind fun o19 => (lt (sF s18 o19 6 (ups o19.2.1 2 p3, o19.2.2)) fun s20 => ((dgo s20 p0 6).bind fun o21 => (lt (sF s20 o21 6 (ups o21.2.1 3 p4, o21.2.2)) fun s22 => ((dgo s22 p0 6).bind fun o23 => (lt (sF s22 o23 6 (ups o23.2.1 4 p5, o23.2.2)) fun s24 => (some s24)))))))))))))))))))))))))
set_option maxHeartbeats 1000000 in
theorem c_f_Rule_init {F : Nat} {s : St} {p0 : Option Nat} {p1 : Option Nat} {p2 : Int32} {p3 : Int32} {p4 : Int32} {p5 : Int32} {s' : St} (hf : f_Rule_init F s p0 p1 p2 p3 p4 p5 = some s') : CC true yX6_init (Cond.code yX6_init cX6_init 6 none) (1) (12) (fun B => [rfB B p0, rfB B p1, .int p2, .int p3, .int p4, .int p5]) s (fun B => none) s' 2 10 := by
  refine CC.of (fun B => [(0, rfB B p0), (1, rfB B p1), (2, .int p2), (3, .int p3), (4, .int p4), (5, .int p5)]) (by decide +kernel) (fun _ => (by simp [lv_args, rfB_cat, catI, catL, catR])) (fun _ => (by simp [lg_sl, rfB_cat, catI, catL, catR])) (fun Γ D B X hr hin => ?_)
  have X : Cx Γ RX6 cX6_init 6 D B { frames := 1, cells := 2, slots := 10, locals := 12 } := X
  unfold f_Rule_init at hf
  refine r_aload_n (pc := 0) X dX6_init_0 0 rfl ?_
  refine b_recv (w := true) (B := B) (D := D) rfl hf (fun a hx hrc hf => ?_)
  refine r_objInit (pc := 1) X hx w_715 w_62 w_objcode (Nat.le_of_ble_eq_true rfl) (Nat.le_of_ble_eq_true rfl) dX6_init_1 ?_
  refine r_aload_n (pc := 4) X dX6_init_4 0 rfl ?_
  refine r_iconst (v := -1) (pc := 5) X dX6_init_5 (by decide) ?_
  refine b_dputI (j := 5) (pc := 6) X rfl inT6 tyX6 tyX6_ok nmX6 (by decide) w_725 (Or.inl rfl) (tyX6_ok 5 (by decide)) rfl rfl rfl dX6_init_6 hf (fun o1 s2 hf => ?_)
  refine r_aload_n (pc := 9) X dX6_init_9 0 rfl ?_
  refine r_iconst (v := 5) (pc := 10) X dX6_init_10 (by decide) ?_
  refine r_newa (t := 1) (ty := .int) (atype := .int) (pc := 11) X w_110 rfl rfl (by decide) (by decide) (m := 5) (by decide) (by decide) (by decide) (by decide) dX6_init_11 ?_
  refine lts hf (fun s3 hf => ?_)
  refine b_dputR (j := 6) (pc := 13) X rfl inT6 tyX6 tyX6_ok nmX6 (by decide) w_727 (Or.inr ⟨rfl, hin, rfl⟩) (tyX6_ok 6 (by decide)) (Or.inr ⟨_, rfl⟩) rfl dX6_init_13 hf (fun o4 s5 hf => ?_)
  refine r_aload_n (pc := 16) X dX6_init_16 0 rfl ?_
  refine r_iconst (v := 5) (pc := 17) X dX6_init_17 (by decide) ?_
  refine r_newa (t := 1) (ty := .int) (atype := .int) (pc := 18) X w_110 rfl rfl (by decide) (by decide) (m := 5) (by decide) (by decide) (by decide) (by decide) dX6_init_18 ?_
  refine lts hf (fun s6 hf => ?_)
  refine b_dputR (j := 7) (pc := 20) X rfl inT6 tyX6 tyX6_ok nmX6 (by decide) w_728 (Or.inr ⟨rfl, hin, rfl⟩) (tyX6_ok 7 (by decide)) (Or.inr ⟨_, rfl⟩) rfl dX6_init_20 hf (fun o7 s8 hf => ?_)
  refine r_aload_n (pc := 23) X dX6_init_23 0 rfl ?_
  refine r_iconst (v := 0) (pc := 24) X dX6_init_24 (by decide) ?_
  refine b_dputI (j := 8) (pc := 25) X rfl inT6 tyX6 tyX6_ok nmX6 (by decide) w_729 (Or.inl rfl) (tyX6_ok 8 (by decide)) rfl rfl rfl dX6_init_25 hf (fun o9 s10 hf => ?_)
  refine r_aload_n (pc := 28) X dX6_init_28 0 rfl ?_
  refine r_iconst (v := 0) (pc := 29) X dX6_init_29 (by decide) ?_
  refine b_dputI (j := 9) (pc := 30) X rfl inT6 tyX6 tyX6_ok nmX6 (by decide) w_731 (Or.inl rfl) (tyX6_ok 9 (by decide)) rfl rfl rfl dX6_init_30 hf (fun o11 s12 hf => ?_)
  refine r_aload_n (pc := 33) X dX6_init_33 0 rfl ?_
  refine r_iconst (v := -1) (pc := 34) X dX6_init_34 (by decide) ?_
  refine b_dputI (j := 10) (pc := 35) X rfl inT6 tyX6 tyX6_ok nmX6 (by decide) w_733 (Or.inl rfl) (tyX6_ok 10 (by decide)) rfl rfl rfl dX6_init_35 hf (fun o13 s14 hf => ?_)
  refine r_aload_n (pc := 38) X dX6_init_38 0 rfl ?_
  refine r_aload_n (pc := 39) X dX6_init_39 1 rfl ?_
  refine b_dputR (j := 0) (pc := 40) X rfl inT6 tyX6 tyX6_ok nmX6 (by decide) w_716 (Or.inr ⟨rfl, hin, rfl⟩) (tyX6_ok 0 (by decide)) (Or.inl ⟨_, rfl⟩) rfl dX6_init_40 hf (fun o15 s16 hf => ?_)
  refine r_aload_n (pc := 43) X dX6_init_43 0 rfl ?_
  refine r_iload_n (pc := 44) X dX6_init_44 2 rfl ?_
  refine b_dputI (j := 1) (pc := 45) X rfl inT6 tyX6 tyX6_ok nmX6 (by decide) w_718 (Or.inr ⟨rfl, hin, rfl⟩) (tyX6_ok 1 (by decide)) rfl rfl rfl dX6_init_45 hf (fun o17 s18 hf => ?_)
  refine r_aload_n (pc := 48) X dX6_init_48 0 rfl ?_
  refine r_iload_n (pc := 49) X dX6_init_49 3 rfl ?_
  refine b_dputI (j := 2) (pc := 50) X rfl inT6 tyX6 tyX6_ok nmX6 (by decide) w_720 (Or.inr ⟨rfl, hin, rfl⟩) (tyX6_ok 2 (by decide)) rfl rfl rfl dX6_init_50 hf (fun o19 s20 hf => ?_)
  refine r_aload_n (pc := 53) X dX6_init_53 0 rfl ?_
  refine r_iload (pc := 54) X dX6_init_54 4 rfl ?_
  refine b_dputI (j := 3) (pc := 56) X rfl inT6 tyX6 tyX6_ok nmX6 (by decide) w_722 (Or.inr ⟨rfl, hin, rfl⟩) (tyX6_ok 3 (by decide)) rfl rfl rfl dX6_init_56 hf (fun o21 s22 hf => ?_)
  refine r_aload_n (pc := 59) X dX6_init_59 0 rfl ?_
  refine r_iload (pc := 60) X dX6_init_60 5 rfl ?_
  refine b_dputI (j := 4) (pc := 62) X rfl inT6 tyX6 tyX6_ok nmX6 (by decide) w_723 (Or.inr ⟨rfl, hin, rfl⟩) (tyX6_ok 4 (by decide)) rfl rfl rfl dX6_init_62 hf (fun o23 s24 hf => ?_)
  exact e_vret (pc := 65) X hr hf (by decide) (by decide) dX6_init_65
/-! f_P_addRule -/
theorem dX10_addRule_0 : decode cX10_addRule 0 = .ok (.aload_n 0, 1) := by decide +kernel
theorem dX10_addRule_1 : decode cX10_addRule 1 = .ok (.getfield 39, 3) := by decide +kernel
theorem dX10_addRule_4 : decode cX10_addRule 4 = .ok (.iload_n 1, 1) := by decide +kernel
theorem dX10_addRule_5 : decode cX10_addRule 5 = .ok (.invokevirtual 158, 3) := by decide +kernel
theorem dX10_addRule_8 : decode cX10_addRule 8 = .ok (.ifCond .ne 13, 3) := by decide +kernel
theorem dX10_addRule_11 : decode cX10_addRule 11 = .ok (.new 162, 3) := by decide +kernel
theorem dX10_addRule_14 : decode cX10_addRule 14 = .ok (.dup, 1) := by decide +kernel
theorem dX10_addRule_15 : decode cX10_addRule 15 = .ok (.ldc 164, 2) := by decide +kernel
theorem dX10_addRule_17 : decode cX10_addRule 17 = .ok (.invokespecial 166, 3) := by decide +kernel
theorem dX10_addRule_20 : decode cX10_addRule 20 = .ok (.athrow, 1) := by decide +kernel
theorem dX10_addRule_21 : decode cX10_addRule 21 = .ok (.iload_n 2, 1) := by decide +kernel
theorem dX10_addRule_22 : decode cX10_addRule 22 = .ok (.iconst 1, 1) := by decide +kernel
theorem dX10_addRule_23 : decode cX10_addRule 23 = .ok (.bipush 72, 2) := by decide +kernel
theorem dX10_addRule_25 : decode cX10_addRule 25 = .ok (.invokestatic 128, 3) := by decide +kernel
theorem dX10_addRule_28 : decode cX10_addRule 28 = .ok (.ifCond .eq 13, 3) := by decide +kernel
theorem dX10_addRule_31 : decode cX10_addRule 31 = .ok (.iload_n 3, 1) := by decide +kernel
theorem dX10_addRule_32 : decode cX10_addRule 32 = .ok (.iconst 0, 1) := by decide +kernel
theorem dX10_addRule_33 : decode cX10_addRule 33 = .ok (.bipush 72, 2) := by decide +kernel
theorem dX10_addRule_35 : decode cX10_addRule 35 = .ok (.invokestatic 128, 3) := by decide +kernel
theorem dX10_addRule_38 : decode cX10_addRule 38 = .ok (.ifCond .ne 13, 3) := by decide +kernel
theorem dX10_addRule_41 : decode cX10_addRule 41 = .ok (.new 78, 3) := by decide +kernel
theorem dX10_addRule_44 : decode cX10_addRule 44 = .ok (.dup, 1) := by decide +kernel
theorem dX10_addRule_45 : decode cX10_addRule 45 = .ok (.ldc 206, 2) := by decide +kernel
theorem dX10_addRule_47 : decode cX10_addRule 47 = .ok (.invokespecial 82, 3) := by decide +kernel
theorem dX10_addRule_50 : decode cX10_addRule 50 = .ok (.athrow, 1) := by decide +kernel
theorem dX10_addRule_51 : decode cX10_addRule 51 = .ok (.aload_n 0, 1) := by decide +kernel
theorem dX10_addRule_52 : decode cX10_addRule 52 = .ok (.getfield 53, 3) := by decide +kernel
theorem dX10_addRule_55 : decode cX10_addRule 55 = .ok (.aload_n 0, 1) := by decide +kernel
theorem dX10_addRule_56 : decode cX10_addRule 56 = .ok (.getfield 9, 3) := by decide +kernel
theorem dX10_addRule_59 : decode cX10_addRule 59 = .ok (.aload_n 0, 1) := by decide +kernel
theorem dX10_addRule_60 : decode cX10_addRule 60 = .ok (.getfield 13, 3) := by decide +kernel
theorem dX10_addRule_63 : decode cX10_addRule 63 = .ok (.invokevirtual 90, 3) := by decide +kernel
theorem dX10_addRule_66 : decode cX10_addRule 66 = .ok (.astore 4, 2) := by decide +kernel
theorem dX10_addRule_68 : decode cX10_addRule 68 = .ok (.aload 4, 2) := by decide +kernel
theorem dX10_addRule_70 : decode cX10_addRule 70 = .ok (.ifnonnull 13, 3) := by decide +kernel
theorem dX10_addRule_73 : decode cX10_addRule 73 = .ok (.new 85, 3) := by decide +kernel
theorem dX10_addRule_76 : decode cX10_addRule 76 = .ok (.dup, 1) := by decide +kernel
theorem dX10_addRule_77 : decode cX10_addRule 77 = .ok (.ldc 104, 2) := by decide +kernel
theorem dX10_addRule_79 : decode cX10_addRule 79 = .ok (.invokespecial 89, 3) := by decide +kernel
theorem dX10_addRule_82 : decode cX10_addRule 82 = .ok (.athrow, 1) := by decide +kernel
theorem dX10_addRule_83 : decode cX10_addRule 83 = .ok (.aload_n 0, 1) := by decide +kernel
theorem dX10_addRule_84 : decode cX10_addRule 84 = .ok (.getfield 26, 3) := by decide +kernel
theorem dX10_addRule_87 : decode cX10_addRule 87 = .ok (.ifCond .lt 15, 3) := by decide +kernel
theorem dX10_addRule_90 : decode cX10_addRule 90 = .ok (.aload_n 0, 1) := by decide +kernel
theorem dX10_addRule_91 : decode cX10_addRule 91 = .ok (.getfield 26, 3) := by decide +kernel
theorem dX10_addRule_94 : decode cX10_addRule 94 = .ok (.aload_n 0, 1) := by decide +kernel
theorem dX10_addRule_95 : decode cX10_addRule 95 = .ok (.getfield 22, 3) := by decide +kernel
theorem dX10_addRule_98 : decode cX10_addRule 98 = .ok (.arraylength, 1) := by decide +kernel
theorem dX10_addRule_99 : decode cX10_addRule 99 = .ok (.if_icmp .lt 13, 3) := by decide +kernel
theorem dX10_addRule_102 : decode cX10_addRule 102 = .ok (.new 85, 3) := by decide +kernel
theorem dX10_addRule_105 : decode cX10_addRule 105 = .ok (.dup, 1) := by decide +kernel
theorem dX10_addRule_106 : decode cX10_addRule 106 = .ok (.ldc 208, 2) := by decide +kernel
theorem dX10_addRule_108 : decode cX10_addRule 108 = .ok (.invokespecial 89, 3) := by decide +kernel
theorem dX10_addRule_111 : decode cX10_addRule 111 = .ok (.athrow, 1) := by decide +kernel
theorem dX10_addRule_112 : decode cX10_addRule 112 = .ok (.aload_n 0, 1) := by decide +kernel
theorem dX10_addRule_113 : decode cX10_addRule 113 = .ok (.getfield 22, 3) := by decide +kernel
theorem dX10_addRule_116 : decode cX10_addRule 116 = .ok (.aload_n 0, 1) := by decide +kernel
theorem dX10_addRule_117 : decode cX10_addRule 117 = .ok (.getfield 26, 3) := by decide +kernel
theorem dX10_addRule_120 : decode cX10_addRule 120 = .ok (.new 20, 3) := by decide +kernel
theorem dX10_addRule_123 : decode cX10_addRule 123 = .ok (.dup, 1) := by decide +kernel
theorem dX10_addRule_124 : decode cX10_addRule 124 = .ok (.aload 4, 2) := by decide +kernel
theorem dX10_addRule_126 : decode cX10_addRule 126 = .ok (.iload_n 1, 1) := by decide +kernel
theorem dX10_addRule_127 : decode cX10_addRule 127 = .ok (.iload_n 2, 1) := by decide +kernel
theorem dX10_addRule_128 : decode cX10_addRule 128 = .ok (.iload_n 3, 1) := by decide +kernel
theorem dX10_addRule_129 : decode cX10_addRule 129 = .ok (.aload_n 0, 1) := by decide +kernel
theorem dX10_addRule_130 : decode cX10_addRule 130 = .ok (.getfield 17, 3) := by decide +kernel
theorem dX10_addRule_133 : decode cX10_addRule 133 = .ok (.invokespecial 210, 3) := by decide +kernel
theorem dX10_addRule_136 : decode cX10_addRule 136 = .ok (.aastore, 1) := by decide +kernel
theorem dX10_addRule_137 : decode cX10_addRule 137 = .ok (.aload_n 0, 1) := by decide +kernel
theorem dX10_addRule_138 : decode cX10_addRule 138 = .ok (.dup, 1) := by decide +kernel
theorem dX10_addRule_139 : decode cX10_addRule 139 = .ok (.getfield 26, 3) := by decide +kernel
theorem dX10_addRule_142 : decode cX10_addRule 142 = .ok (.iconst 1, 1) := by decide +kernel
theorem dX10_addRule_143 : decode cX10_addRule 143 = .ok (.iadd, 1) := by decide +kernel
theorem dX10_addRule_144 : decode cX10_addRule 144 = .ok (.putfield 26, 3) := by decide +kernel
theorem dX10_addRule_147 : decode cX10_addRule 147 = .ok (.aload_n 0, 1) := by decide +kernel
theorem dX10_addRule_148 : decode cX10_addRule 148 = .ok (.getfield 26, 3) := by decide +kernel
theorem dX10_addRule_151 : decode cX10_addRule 151 = .ok (.iconst 1, 1) := by decide +kernel
theorem dX10_addRule_152 : decode cX10_addRule 152 = .ok (.isub, 1) := by decide +kernel
theorem dX10_addRule_153 : decode cX10_addRule 153 = .ok (.ireturn, 1) := by decide +kernel
def f_P_addRule (F Z : Nat) (s : St) (p1 : Int32) (p2 : Int32) (p3 : Int32) : Option ((Int32 ⊕ Nat) × St) :=
  (f_Rota_hasPerson F s p1).bind fun x1 => (if x1.1 = 0 then
    (if sz x1.2 < Z then some (.inr 2, sz' x1.2 (sz x1.2 + 1)) else none)
  else
    ((f_P_isIn F x1.2 p2 1 72).bind fun x2 => (if x2.1 = 0 then
      (if sz x2.2 < Z then some (.inr 0, sz' x2.2 (sz x2.2 + 1)) else none)
    else
      ((f_P_isIn F x2.2 p3 0 72).bind fun x3 => (if x3.1 = 0 then
        (if sz x3.2 < Z then some (.inr 0, sz' x3.2 (sz x3.2 + 1)) else none)
      else
        ((f_Reader_read F Z x3.2 (gI x3.2 1)).bind fun x4 => (if sz x4.2 ≤ Z then (if x4.1 = none then
          (if sz x4.2 < Z then some (.inr 1, sz' x4.2 (sz x4.2 + 1)) else none)
        else
          (if (gI x4.2 4) < 0 then
            (if sz x4.2 < Z then some (.inr 1, sz' x4.2 (sz x4.2 + 1)) else none)
          else
            (if (gI x4.2 4) < 4 then
              (if sz x4.2 < Z then (lt (sN x4.2 (.inl (6, fun _ => 0, fun _ => none, fun _ => 0))) fun s5 => ((dgo s5 (some (sz x4.2)) 6).bind fun _ => ((f_Rule_init F s5 (some (sz x4.2)) x4.1 p1 p2 p3 (gI s5 2)).bind fun x6 => (if sz s5 + 2 ≤ sz x6 ∧ sz x6 ≤ Z then ((dgo x6 (some (sz x4.2)) 6).bind fun _ => ((ix 4 (gI x4.2 4)).bind fun j7 => (lt (sQ x6 2 j7 (some (sz x4.2))) fun s8 => (lt (sI s8 4 ((gI s8 4) + 1)) fun s9 => (some (.inl ((gI s9 4) - 1), s9)))))) else none)))) else none)
            else
              (if sz x4.2 < Z then some (.inr 1, sz' x4.2 (sz x4.2 + 1)) else none)))) else none)))))))
set_option maxHeartbeats 1000000 in
theorem c_f_P_addRule {F Z : Nat} {s : St} {p1 : Int32} {p2 : Int32} {p3 : Int32} {r : Int32 ⊕ Nat} {s' : St} (hf : f_P_addRule F Z s p1 p2 p3 = some (r, s')) : CX true yX10_addRule (Cond.code yX10_addRule cX10_addRule 5 (some .int)) (802) (16450) (Z - sz s) (12 * (Z - sz s)) (fun B => [.ref (B + 0), .int p1, .int p2, .int p3]) s (fun B => (ouI r)) s' (Z - sz s) (12 * (Z - sz s)) := by
  refine CX.ofX (fun B => [(0, .ref (B + 0)), (1, .int p1), (2, .int p2), (3, .int p3)]) (by decide +kernel) (fun _ => rfl) (fun _ => (by simp [lg_sl, rfB_cat, catI, catL, catR])) (fun Γ D B X Y hr => ?_)
  have X : Cx Γ RX10 cX10_addRule 5 D B (RM Γ B Z (802) (16450)) := X
  unfold f_P_addRule at hf
  refine r_aload_n (x := some 0) (pc := 0) X dX10_addRule_0 0 rfl ?_
  refine r_get (j := 6) (pc := 1) X ce_0 rfl inT10 (by decide) w_286 rfl dX10_addRule_1 ?_
  refine r_iload_n (pc := 4) X dX10_addRule_4 1 rfl ?_
  refine bnd hf (fun x1 h1 hf => ?_)
  refine z_callVi (As := [.int p1]) (st := []) (pc := 5) X (c_f_Rota_hasPerson h1) rfl w_616 w_617 w_618 w_38 w_619 hdV_X5_hasPerson (Rc.s rfl ce_12) (by decide) (Nat.le_of_ble_eq_true rfl) dX10_addRule_5 rfl ?_
  refine b_if_ne (tgt := 21) (pc := 8) X dX10_addRule_8 (by decide) hf (fun hf => ?_) (fun hf => ?_)
  · exact x_throw (e := 2) (pc := 11) X Y (by decide +kernel) tnames_ok w_359 w_50 thr_2_166 (thg_2_166 _) str_164 rfl (by decide) (by decide) dX10_addRule_11 dX10_addRule_14 dX10_addRule_15 dX10_addRule_17 dX10_addRule_20 hf
  · refine r_iload_n (pc := 21) X dX10_addRule_21 2 rfl ?_
    refine r_iconst (v := 1) (pc := 22) X dX10_addRule_22 (by decide) ?_
    refine r_bipush (v := 72) (pc := 23) X dX10_addRule_23 (by decide) ?_
    refine bnd hf (fun x2 h2 hf => ?_)
    refine z_callSi (As := [.int p2, .int 1, .int 72]) (st := []) (pc := 25) X (c_f_P_isIn h2) rfl w_483 w_342 w_36 w_343 hdS_X10_isIn (by decide) (Nat.le_of_ble_eq_true rfl) dX10_addRule_25 rfl ?_
    refine b_if_eq (tgt := 41) (pc := 28) X dX10_addRule_28 (by decide) hf (fun hf => ?_) (fun hf => ?_)
    · exact x_throw (e := 0) (pc := 41) X Y (by decide +kernel) tnames_ok w_447 w_52 thr_0_82 (thg_0_82 _) str_206 rfl (by decide) (by decide) dX10_addRule_41 dX10_addRule_44 dX10_addRule_45 dX10_addRule_47 dX10_addRule_50 hf
    · refine r_iload_n (pc := 31) X dX10_addRule_31 3 rfl ?_
      refine r_iconst (v := 0) (pc := 32) X dX10_addRule_32 (by decide) ?_
      refine r_bipush (v := 72) (pc := 33) X dX10_addRule_33 (by decide) ?_
      refine bnd hf (fun x3 h3 hf => ?_)
      refine z_callSi (As := [.int p3, .int 0, .int 72]) (st := []) (pc := 35) X (c_f_P_isIn h3) rfl w_483 w_342 w_36 w_343 hdS_X10_isIn (by decide) (Nat.le_of_ble_eq_true rfl) dX10_addRule_35 rfl ?_
      refine b_if_ne (tgt := 51) (pc := 38) X dX10_addRule_38 (by decide) hf (fun hf => ?_) (fun hf => ?_)
      · exact x_throw (e := 0) (pc := 41) X Y (by decide +kernel) tnames_ok w_447 w_52 thr_0_82 (thg_0_82 _) str_206 rfl (by decide) (by decide) dX10_addRule_41 dX10_addRule_44 dX10_addRule_45 dX10_addRule_47 dX10_addRule_50 hf
      · refine r_aload_n (x := some 0) (pc := 51) X dX10_addRule_51 0 rfl ?_
        refine r_get (j := 8) (pc := 52) X ce_0 rfl inT10 (by decide) w_288 rfl dX10_addRule_52 ?_
        refine r_aload_n (x := some 0) (pc := 55) X dX10_addRule_55 0 rfl ?_
        refine r_get (j := 0) (pc := 56) X ce_0 rfl inT10 (by decide) w_280 rfl dX10_addRule_56 ?_
        refine r_aload_n (x := some 0) (pc := 59) X dX10_addRule_59 0 rfl ?_
        refine r_get (j := 1) (pc := 60) X ce_0 rfl inT10 (by decide) w_281 rfl dX10_addRule_60 ?_
        refine bnd hf (fun x4 h4 hf => ?_)
        refine ifo hf (fun hz hf => ?_)
        refine z_callXVq (As := [.ref (B + 1), .int (gI x3.2 1)]) (st := []) (pc := 63) X Y (c_f_Reader_read h4) rfl w_632 w_633 w_634 w_41 w_635 hdV_X4_read (Rc.s rfl ce_24) (by decide) hz (Nat.le_of_ble_eq_true rfl) dX10_addRule_63 rfl ?_
        refine r_astore (pc := 66) (lv' := [(0, .ref (B + 0)), (1, .int p1), (2, .int p2), (3, .int p3), (4, rfB B x4.1)]) X dX10_addRule_66 (by decide) [1, 2, 3, 4, 0] rfl ?_
        refine r_aload (pc := 68) X dX10_addRule_68 4 rfl ?_
        refine b_ifnonnull (tgt := 83) (pc := 70) X dX10_addRule_70 (by decide) hf (fun hf => ?_) (fun hf => ?_)
        · exact x_throw (e := 1) (pc := 73) X Y (by decide +kernel) tnames_ok w_463 w_53 thr_1_89 (thg_1_89 _) str_104 rfl (by decide) (by decide) dX10_addRule_73 dX10_addRule_76 dX10_addRule_77 dX10_addRule_79 dX10_addRule_82 hf
        · refine r_aload_n (x := some 0) (pc := 83) X dX10_addRule_83 0 rfl ?_
          refine r_get (j := 4) (pc := 84) X ce_0 rfl inT10 (by decide) w_284 rfl dX10_addRule_84 ?_
          refine b_if_lt (tgt := 102) (pc := 87) X dX10_addRule_87 (by decide) hf (fun hf => ?_) (fun hf => ?_)
          · exact x_throw (e := 1) (pc := 102) X Y (by decide +kernel) tnames_ok w_463 w_53 thr_1_89 (thg_1_89 _) str_208 rfl (by decide) (by decide) dX10_addRule_102 dX10_addRule_105 dX10_addRule_106 dX10_addRule_108 dX10_addRule_111 hf
          · refine r_aload_n (x := some 0) (pc := 90) X dX10_addRule_90 0 rfl ?_
            refine r_get (j := 4) (pc := 91) X ce_0 rfl inT10 (by decide) w_284 rfl dX10_addRule_91 ?_
            refine r_aload_n (x := some 0) (pc := 94) X dX10_addRule_94 0 rfl ?_
            refine r_get (j := 3) (pc := 95) X ce_0 rfl inT10 (by decide) w_283 rfl dX10_addRule_95 ?_
            refine r_alen (t0 := 4) (v := 4) (pc := 98) X ce_2 rfl (by decide) dX10_addRule_98 ?_
            refine b_icmp_lt (tgt := 112) (pc := 99) X dX10_addRule_99 (by decide) hf (fun hf => ?_) (fun hf => ?_)
            · refine r_aload_n (x := some 0) (pc := 112) X dX10_addRule_112 0 rfl ?_
              refine r_get (j := 3) (pc := 113) X ce_0 rfl inT10 (by decide) w_283 rfl dX10_addRule_113 ?_
              refine r_aload_n (x := some 0) (pc := 116) X dX10_addRule_116 0 rfl ?_
              refine r_get (j := 4) (pc := 117) X ce_0 rfl inT10 (by decide) w_284 rfl dX10_addRule_117 ?_
              refine z_new (pc := 120) X rfl inT6 tyX6 tyX6_ok w_64 w_711 w_54 rfl hdv6 (by decide) dX10_addRule_120 hf (fun s5 hf => ?_)
              refine r_dup (pc := 123) X dX10_addRule_123 rfl ?_
              refine r_aload (pc := 124) X dX10_addRule_124 4 rfl ?_
              refine r_iload_n (pc := 126) X dX10_addRule_126 1 rfl ?_
              refine r_iload_n (pc := 127) X dX10_addRule_127 2 rfl ?_
              refine r_iload_n (pc := 128) X dX10_addRule_128 3 rfl ?_
              refine r_aload_n (x := some 0) (pc := 129) X dX10_addRule_129 0 rfl ?_
              refine r_get (j := 2) (pc := 130) X ce_0 rfl inT10 (by decide) w_282 rfl dX10_addRule_130 ?_
              refine b_recv (w := true) (B := B) (D := D) rfl hf (fun a hx hrc hf => ?_)
              refine bnd hf (fun x6 h6 hf => ?_)
              refine ifo hf (fun hz hf => ?_)
              refine z_callIB (mc := 2) (ms := 10) (As := [rfB B x4.1, .int p1, .int p2, .int p3, .int (gI s5 2)]) (st := [rfB B (some (sz x4.2)), .int (gI x4.2 4), .ref (B + 2)]) (pc := 133) X (c_f_Rule_init h6) (by rw [hx]; rfl) w_712 w_713 w_54 w_714 rfl hdS_X6_init (by decide) hz (by decide) (Nat.le_of_ble_eq_true rfl) dX10_addRule_133 (by rw [hx]; rfl) ?_
              refine z_aast (pc := 136) X ce_2 (fun _ => ca_2 _ _) dX10_addRule_136 hf (fun j7 s8 hf => ?_)
              refine r_aload_n (x := some 0) (pc := 137) X dX10_addRule_137 0 rfl ?_
              refine r_dup (pc := 138) X dX10_addRule_138 rfl ?_
              refine r_get (j := 4) (pc := 139) X ce_0 rfl inT10 (by decide) w_284 rfl dX10_addRule_139 ?_
              refine r_iconst (v := 1) (pc := 142) X dX10_addRule_142 (by decide) ?_
              refine r_iadd (pc := 143) X dX10_addRule_143 ?_
              refine z_put (j := 4) (pc := 144) X ce_0 rfl inT10 tyX10 tyX10_ok nmX10 (by decide) w_284 rfl (tyX10_ok 4 (by decide)) rfl rfl (Nat.le_of_ble_eq_true rfl) (cp_4 _) rfl rfl dX10_addRule_144 hf (fun s9 hf => ?_)
              refine r_aload_n (x := some 0) (pc := 147) X dX10_addRule_147 0 rfl ?_
              refine r_get (j := 4) (pc := 148) X ce_0 rfl inT10 (by decide) w_284 rfl dX10_addRule_148 ?_
              refine r_iconst (v := 1) (pc := 151) X dX10_addRule_151 (by decide) ?_
              refine r_isub (pc := 152) X dX10_addRule_152 ?_
              exact x_iret (pc := 153) X hr hf dX10_addRule_153
            · exact x_throw (e := 1) (pc := 102) X Y (by decide +kernel) tnames_ok w_463 w_53 thr_1_89 (thg_1_89 _) str_208 rfl (by decide) (by decide) dX10_addRule_102 dX10_addRule_105 dX10_addRule_106 dX10_addRule_108 dX10_addRule_111 hf
/-! f_P_drop -/
theorem dX10_drop_0 : decode cX10_drop 0 = .ok (.aload_n 0, 1) := by decide +kernel
theorem dX10_drop_1 : decode cX10_drop 1 = .ok (.iload_n 1, 1) := by decide +kernel
theorem dX10_drop_2 : decode cX10_drop 2 = .ok (.invokevirtual 213, 3) := by decide +kernel
theorem dX10_drop_5 : decode cX10_drop 5 = .ok (.astore_n 2, 1) := by decide +kernel
theorem dX10_drop_6 : decode cX10_drop 6 = .ok (.aload_n 2, 1) := by decide +kernel
theorem dX10_drop_7 : decode cX10_drop 7 = .ok (.ifnonnull 13, 3) := by decide +kernel
theorem dX10_drop_10 : decode cX10_drop 10 = .ok (.new 162, 3) := by decide +kernel
theorem dX10_drop_13 : decode cX10_drop 13 = .ok (.dup, 1) := by decide +kernel
theorem dX10_drop_14 : decode cX10_drop 14 = .ok (.ldc 217, 2) := by decide +kernel
theorem dX10_drop_16 : decode cX10_drop 16 = .ok (.invokespecial 166, 3) := by decide +kernel
theorem dX10_drop_19 : decode cX10_drop 19 = .ok (.athrow, 1) := by decide +kernel
theorem dX10_drop_20 : decode cX10_drop 20 = .ok (.aload_n 2, 1) := by decide +kernel
theorem dX10_drop_21 : decode cX10_drop 21 = .ok (.invokevirtual 219, 3) := by decide +kernel
theorem dX10_drop_24 : decode cX10_drop 24 = .ok (.ifCond .eq 13, 3) := by decide +kernel
theorem dX10_drop_27 : decode cX10_drop 27 = .ok (.new 85, 3) := by decide +kernel
theorem dX10_drop_30 : decode cX10_drop 30 = .ok (.dup, 1) := by decide +kernel
theorem dX10_drop_31 : decode cX10_drop 31 = .ok (.ldc 223, 2) := by decide +kernel
theorem dX10_drop_33 : decode cX10_drop 33 = .ok (.invokespecial 89, 3) := by decide +kernel
theorem dX10_drop_36 : decode cX10_drop 36 = .ok (.athrow, 1) := by decide +kernel
theorem dX10_drop_37 : decode cX10_drop 37 = .ok (.aload_n 2, 1) := by decide +kernel
theorem dX10_drop_38 : decode cX10_drop 38 = .ok (.aload_n 0, 1) := by decide +kernel
theorem dX10_drop_39 : decode cX10_drop 39 = .ok (.getfield 17, 3) := by decide +kernel
theorem dX10_drop_42 : decode cX10_drop 42 = .ok (.putfield 225, 3) := by decide +kernel
theorem dX10_drop_45 : decode cX10_drop 45 = .ok (.aload_n 2, 1) := by decide +kernel
theorem dX10_drop_46 : decode cX10_drop 46 = .ok (.getfield 228, 3) := by decide +kernel
theorem dX10_drop_49 : decode cX10_drop 49 = .ok (.ireturn, 1) := by decide +kernel
def f_P_drop (F Z : Nat) (s : St) (p1 : Int32) : Option ((Int32 ⊕ Nat) × St) :=
  (f_P_ruleAt F s p1).bind fun x1 => (if x1.1 = none then
    (if sz x1.2 < Z then some (.inr 2, sz' x1.2 (sz x1.2 + 1)) else none)
  else
    ((dgo x1.2 x1.1 6).bind fun _ => ((f_Rule_isDropped F x1.2 x1.1).bind fun x2 => (if x2.1 = 0 then
      ((dgo x2.2 x1.1 6).bind fun o3 => (lt (sF x2.2 o3 6 (ups o3.2.1 5 (gI x2.2 2), o3.2.2)) fun s4 => ((dgo s4 x1.1 6).bind fun o5 => (some (.inl (o5.2.1 9), s4)))))
    else
      (if sz x2.2 < Z then some (.inr 1, sz' x2.2 (sz x2.2 + 1)) else none)))))
set_option maxHeartbeats 1000000 in
theorem c_f_P_drop {F Z : Nat} {s : St} {p1 : Int32} {r : Int32 ⊕ Nat} {s' : St} (hf : f_P_drop F Z s p1 = some (r, s')) : CX true yX10_drop (Cond.code yX10_drop cX10_drop 3 (some .int)) (6) (90) (Z - sz s) (12 * (Z - sz s)) (fun B => [.ref (B + 0), .int p1]) s (fun B => (ouI r)) s' (Z - sz s) (12 * (Z - sz s)) := by
  refine CX.ofX (fun B => [(0, .ref (B + 0)), (1, .int p1)]) (by decide +kernel) (fun _ => rfl) (fun _ => (by simp [lg_sl, rfB_cat, catI, catL, catR])) (fun Γ D B X Y hr => ?_)
  have X : Cx Γ RX10 cX10_drop 3 D B (RM Γ B Z (6) (90)) := X
  unfold f_P_drop at hf
  refine r_aload_n (x := some 0) (pc := 0) X dX10_drop_0 0 rfl ?_
  refine r_iload_n (pc := 1) X dX10_drop_1 1 rfl ?_
  refine bnd hf (fun x1 h1 hf => ?_)
  refine z_callVq (As := [.int p1]) (st := []) (pc := 2) X (c_f_P_ruleAt h1) rfl w_355 w_357 w_2 w_36 w_358 hdV_X10_ruleAt (Rc.s rfl ce_0) (by decide) (Nat.le_of_ble_eq_true rfl) dX10_drop_2 rfl ?_
  refine r_astore_n (pc := 5) (lv' := [(0, .ref (B + 0)), (2, rfB B x1.1)]) X dX10_drop_5 (by decide) [1, 0] rfl ?_
  refine r_aload_n (pc := 6) X dX10_drop_6 1 rfl ?_
  refine b_ifnonnull (tgt := 20) (pc := 7) X dX10_drop_7 (by decide) hf (fun hf => ?_) (fun hf => ?_)
  · exact x_throw (e := 2) (pc := 10) X Y (by decide +kernel) tnames_ok w_359 w_50 thr_2_166 (thg_2_166 _) str_217 rfl (by decide) (by decide) dX10_drop_10 dX10_drop_13 dX10_drop_14 dX10_drop_16 dX10_drop_19 hf
  · refine r_aload_n (pc := 20) X dX10_drop_20 1 rfl ?_
    refine b_recv (w := true) (B := B) (D := D) rfl hf (fun a hx hrc hf => ?_)
    refine bnd hf (fun x2 h2 hf => ?_)
    refine z_callVi (As := []) (st := []) (pc := 21) X (c_f_Rule_isDropped h2) (by rw [hx]; rfl) w_510 w_511 w_512 w_54 w_513 hdV_X6_isDropped hrc (by decide) (Nat.le_of_ble_eq_true rfl) dX10_drop_21 (by rw [hx]; rfl) ?_
    refine b_if_eq (tgt := 37) (pc := 24) X dX10_drop_24 (by decide) hf (fun hf => ?_) (fun hf => ?_)
    · refine r_aload_n (pc := 37) X dX10_drop_37 1 rfl ?_
      refine r_aload_n (x := some 0) (pc := 38) X dX10_drop_38 0 rfl ?_
      refine r_get (j := 2) (pc := 39) X ce_0 rfl inT10 (by decide) w_282 rfl dX10_drop_39 ?_
      refine z_dputI (j := 5) (pc := 42) X rfl inT6 tyX6 tyX6_ok nmX6 (by decide) w_726 (Or.inl rfl) (tyX6_ok 5 (by decide)) rfl rfl rfl dX10_drop_42 hf (fun o3 s4 hf => ?_)
      refine r_aload_n (pc := 45) X dX10_drop_45 1 rfl ?_
      refine b_dgetI (j := 9) (pc := 46) X rfl inT6 (by decide) w_732 rfl dX10_drop_46 hf (fun o5 hf => ?_)
      exact x_iret (pc := 49) X hr hf dX10_drop_49
    · exact x_throw (e := 1) (pc := 27) X Y (by decide +kernel) tnames_ok w_463 w_53 thr_1_89 (thg_1_89 _) str_223 rfl (by decide) (by decide) dX10_drop_27 dX10_drop_30 dX10_drop_31 dX10_drop_33 dX10_drop_36 hf
/-! f_P_silence -/
theorem dX10_silence_0 : decode cX10_silence 0 = .ok (.aload_n 0, 1) := by decide +kernel
theorem dX10_silence_1 : decode cX10_silence 1 = .ok (.iload_n 1, 1) := by decide +kernel
theorem dX10_silence_2 : decode cX10_silence 2 = .ok (.invokevirtual 213, 3) := by decide +kernel
theorem dX10_silence_5 : decode cX10_silence 5 = .ok (.astore 4, 2) := by decide +kernel
theorem dX10_silence_7 : decode cX10_silence 7 = .ok (.aload 4, 2) := by decide +kernel
theorem dX10_silence_9 : decode cX10_silence 9 = .ok (.ifnonnull 13, 3) := by decide +kernel
theorem dX10_silence_12 : decode cX10_silence 12 = .ok (.new 162, 3) := by decide +kernel
theorem dX10_silence_15 : decode cX10_silence 15 = .ok (.dup, 1) := by decide +kernel
theorem dX10_silence_16 : decode cX10_silence 16 = .ok (.ldc 217, 2) := by decide +kernel
theorem dX10_silence_18 : decode cX10_silence 18 = .ok (.invokespecial 166, 3) := by decide +kernel
theorem dX10_silence_21 : decode cX10_silence 21 = .ok (.athrow, 1) := by decide +kernel
theorem dX10_silence_22 : decode cX10_silence 22 = .ok (.iload_n 2, 1) := by decide +kernel
theorem dX10_silence_23 : decode cX10_silence 23 = .ok (.iload_n 3, 1) := by decide +kernel
theorem dX10_silence_24 : decode cX10_silence 24 = .ok (.aload_n 0, 1) := by decide +kernel
theorem dX10_silence_25 : decode cX10_silence 25 = .ok (.getfield 17, 3) := by decide +kernel
theorem dX10_silence_28 : decode cX10_silence 28 = .ok (.iconst 1, 1) := by decide +kernel
theorem dX10_silence_29 : decode cX10_silence 29 = .ok (.iadd, 1) := by decide +kernel
theorem dX10_silence_30 : decode cX10_silence 30 = .ok (.sipush 1000, 3) := by decide +kernel
theorem dX10_silence_33 : decode cX10_silence 33 = .ok (.invokestatic 98, 3) := by decide +kernel
theorem dX10_silence_36 : decode cX10_silence 36 = .ok (.ifCond .ne 13, 3) := by decide +kernel
theorem dX10_silence_39 : decode cX10_silence 39 = .ok (.new 78, 3) := by decide +kernel
theorem dX10_silence_42 : decode cX10_silence 42 = .ok (.dup, 1) := by decide +kernel
theorem dX10_silence_43 : decode cX10_silence 43 = .ok (.ldc 102, 2) := by decide +kernel
theorem dX10_silence_45 : decode cX10_silence 45 = .ok (.invokespecial 82, 3) := by decide +kernel
theorem dX10_silence_48 : decode cX10_silence 48 = .ok (.athrow, 1) := by decide +kernel
theorem dX10_silence_49 : decode cX10_silence 49 = .ok (.aload 4, 2) := by decide +kernel
theorem dX10_silence_51 : decode cX10_silence 51 = .ok (.getfield 231, 3) := by decide +kernel
theorem dX10_silence_54 : decode cX10_silence 54 = .ok (.iconst 5, 1) := by decide +kernel
theorem dX10_silence_55 : decode cX10_silence 55 = .ok (.if_icmp .lt 13, 3) := by decide +kernel
theorem dX10_silence_58 : decode cX10_silence 58 = .ok (.new 85, 3) := by decide +kernel
theorem dX10_silence_61 : decode cX10_silence 61 = .ok (.dup, 1) := by decide +kernel
theorem dX10_silence_62 : decode cX10_silence 62 = .ok (.ldc 234, 2) := by decide +kernel
theorem dX10_silence_64 : decode cX10_silence 64 = .ok (.invokespecial 89, 3) := by decide +kernel
theorem dX10_silence_67 : decode cX10_silence 67 = .ok (.athrow, 1) := by decide +kernel
theorem dX10_silence_68 : decode cX10_silence 68 = .ok (.aload 4, 2) := by decide +kernel
theorem dX10_silence_70 : decode cX10_silence 70 = .ok (.iload_n 2, 1) := by decide +kernel
theorem dX10_silence_71 : decode cX10_silence 71 = .ok (.iload_n 3, 1) := by decide +kernel
theorem dX10_silence_72 : decode cX10_silence 72 = .ok (.invokevirtual 236, 3) := by decide +kernel
theorem dX10_silence_75 : decode cX10_silence 75 = .ok (.aload 4, 2) := by decide +kernel
theorem dX10_silence_77 : decode cX10_silence 77 = .ok (.getfield 231, 3) := by decide +kernel
theorem dX10_silence_80 : decode cX10_silence 80 = .ok (.ireturn, 1) := by decide +kernel
def f_P_silence (F Z : Nat) (s : St) (p1 : Int32) (p2 : Int32) (p3 : Int32) : Option ((Int32 ⊕ Nat) × St) :=
  (f_P_ruleAt F s p1).bind fun x1 => (if x1.1 = none then
    (if sz x1.2 < Z then some (.inr 2, sz' x1.2 (sz x1.2 + 1)) else none)
  else
    ((f_P_isRange F x1.2 p2 p3 ((gI x1.2 2) + 1) 1000).bind fun x2 => (if x2.1 = 0 then
      (if sz x2.2 < Z then some (.inr 0, sz' x2.2 (sz x2.2 + 1)) else none)
    else
      ((dgo x2.2 x1.1 6).bind fun o3 => (if (o3.2.1 8) < 5 then
        ((dgo x2.2 x1.1 6).bind fun _ => ((f_Rule_addSilence F x2.2 x1.1 p2 p3).bind fun x4 => ((dgo x4 x1.1 6).bind fun o5 => (some (.inl (o5.2.1 8), x4)))))
      else
        (if sz x2.2 < Z then some (.inr 1, sz' x2.2 (sz x2.2 + 1)) else none))))))
set_option maxHeartbeats 1000000 in
theorem c_f_P_silence {F Z : Nat} {s : St} {p1 : Int32} {p2 : Int32} {p3 : Int32} {r : Int32 ⊕ Nat} {s' : St} (hf : f_P_silence F Z s p1 p2 p3 = some (r, s')) : CX true yX10_silence (Cond.code yX10_silence cX10_silence 5 (some .int)) (6) (90) (Z - sz s) (12 * (Z - sz s)) (fun B => [.ref (B + 0), .int p1, .int p2, .int p3]) s (fun B => (ouI r)) s' (Z - sz s) (12 * (Z - sz s)) := by
  refine CX.ofX (fun B => [(0, .ref (B + 0)), (1, .int p1), (2, .int p2), (3, .int p3)]) (by decide +kernel) (fun _ => rfl) (fun _ => (by simp [lg_sl, rfB_cat, catI, catL, catR])) (fun Γ D B X Y hr => ?_)
  have X : Cx Γ RX10 cX10_silence 5 D B (RM Γ B Z (6) (90)) := X
  unfold f_P_silence at hf
  refine r_aload_n (x := some 0) (pc := 0) X dX10_silence_0 0 rfl ?_
  refine r_iload_n (pc := 1) X dX10_silence_1 1 rfl ?_
  refine bnd hf (fun x1 h1 hf => ?_)
  refine z_callVq (As := [.int p1]) (st := []) (pc := 2) X (c_f_P_ruleAt h1) rfl w_355 w_357 w_2 w_36 w_358 hdV_X10_ruleAt (Rc.s rfl ce_0) (by decide) (Nat.le_of_ble_eq_true rfl) dX10_silence_2 rfl ?_
  refine r_astore (pc := 5) (lv' := [(0, .ref (B + 0)), (2, .int p2), (3, .int p3), (4, rfB B x1.1)]) X dX10_silence_5 (by decide) [1, 3, 4, 0] rfl ?_
  refine r_aload (pc := 7) X dX10_silence_7 3 rfl ?_
  refine b_ifnonnull (tgt := 22) (pc := 9) X dX10_silence_9 (by decide) hf (fun hf => ?_) (fun hf => ?_)
  · exact x_throw (e := 2) (pc := 12) X Y (by decide +kernel) tnames_ok w_359 w_50 thr_2_166 (thg_2_166 _) str_217 rfl (by decide) (by decide) dX10_silence_12 dX10_silence_15 dX10_silence_16 dX10_silence_18 dX10_silence_21 hf
  · refine r_iload_n (pc := 22) X dX10_silence_22 1 rfl ?_
    refine r_iload_n (pc := 23) X dX10_silence_23 2 rfl ?_
    refine r_aload_n (x := some 0) (pc := 24) X dX10_silence_24 0 rfl ?_
    refine r_get (j := 2) (pc := 25) X ce_0 rfl inT10 (by decide) w_282 rfl dX10_silence_25 ?_
    refine r_iconst (v := 1) (pc := 28) X dX10_silence_28 (by decide) ?_
    refine r_iadd (pc := 29) X dX10_silence_29 ?_
    refine r_sipush (v := 1000) (pc := 30) X dX10_silence_30 (by decide) ?_
    refine bnd hf (fun x2 h2 hf => ?_)
    refine z_callSi (As := [.int p2, .int p3, .int ((gI x1.2 2) + 1), .int 1000]) (st := []) (pc := 33) X (c_f_P_isRange h2) rfl w_767 w_537 w_36 w_538 hdS_X10_isRange (by decide) (Nat.le_of_ble_eq_true rfl) dX10_silence_33 rfl ?_
    refine b_if_ne (tgt := 49) (pc := 36) X dX10_silence_36 (by decide) hf (fun hf => ?_) (fun hf => ?_)
    · exact x_throw (e := 0) (pc := 39) X Y (by decide +kernel) tnames_ok w_447 w_52 thr_0_82 (thg_0_82 _) str_102 rfl (by decide) (by decide) dX10_silence_39 dX10_silence_42 dX10_silence_43 dX10_silence_45 dX10_silence_48 hf
    · refine r_aload (pc := 49) X dX10_silence_49 3 rfl ?_
      refine b_dgetI (j := 8) (pc := 51) X rfl inT6 (by decide) w_730 rfl dX10_silence_51 hf (fun o3 hf => ?_)
      refine r_iconst (v := 5) (pc := 54) X dX10_silence_54 (by decide) ?_
      refine b_icmp_lt (tgt := 68) (pc := 55) X dX10_silence_55 (by decide) hf (fun hf => ?_) (fun hf => ?_)
      · refine r_aload (pc := 68) X dX10_silence_68 3 rfl ?_
        refine r_iload_n (pc := 70) X dX10_silence_70 1 rfl ?_
        refine r_iload_n (pc := 71) X dX10_silence_71 2 rfl ?_
        refine b_recv (w := true) (B := B) (D := D) rfl hf (fun a hx hrc hf => ?_)
        refine bnd hf (fun x4 h4 hf => ?_)
        refine z_callVv (As := [.int p2, .int p3]) (st := []) (pc := 72) X (c_f_Rule_addSilence h4) (by rw [hx]; rfl) w_770 w_771 w_772 w_54 w_773 hdV_X6_addSilence hrc (by decide) (Nat.le_of_ble_eq_true rfl) dX10_silence_72 (by rw [hx]; rfl) ?_
        refine r_aload (pc := 75) X dX10_silence_75 3 rfl ?_
        refine b_dgetI (j := 8) (pc := 77) X rfl inT6 (by decide) w_730 rfl dX10_silence_77 hf (fun o5 hf => ?_)
        exact x_iret (pc := 80) X hr hf dX10_silence_80
      · exact x_throw (e := 1) (pc := 58) X Y (by decide +kernel) tnames_ok w_463 w_53 thr_1_89 (thg_1_89 _) str_234 rfl (by decide) (by decide) dX10_silence_58 dX10_silence_61 dX10_silence_62 dX10_silence_64 dX10_silence_67 hf
/-! f_P_inWindow -/
theorem dX10_inWindow_0 : decode cX10_inWindow 0 = .ok (.aload_n 0, 1) := by decide +kernel
theorem dX10_inWindow_1 : decode cX10_inWindow 1 = .ok (.iload_n 1, 1) := by decide +kernel
theorem dX10_inWindow_2 : decode cX10_inWindow 2 = .ok (.invokevirtual 213, 3) := by decide +kernel
theorem dX10_inWindow_5 : decode cX10_inWindow 5 = .ok (.astore_n 2, 1) := by decide +kernel
theorem dX10_inWindow_6 : decode cX10_inWindow 6 = .ok (.aload_n 2, 1) := by decide +kernel
theorem dX10_inWindow_7 : decode cX10_inWindow 7 = .ok (.ifnonnull 13, 3) := by decide +kernel
theorem dX10_inWindow_10 : decode cX10_inWindow 10 = .ok (.new 162, 3) := by decide +kernel
theorem dX10_inWindow_13 : decode cX10_inWindow 13 = .ok (.dup, 1) := by decide +kernel
theorem dX10_inWindow_14 : decode cX10_inWindow 14 = .ok (.ldc 217, 2) := by decide +kernel
theorem dX10_inWindow_16 : decode cX10_inWindow 16 = .ok (.invokespecial 166, 3) := by decide +kernel
theorem dX10_inWindow_19 : decode cX10_inWindow 19 = .ok (.athrow, 1) := by decide +kernel
theorem dX10_inWindow_20 : decode cX10_inWindow 20 = .ok (.aload_n 0, 1) := by decide +kernel
theorem dX10_inWindow_21 : decode cX10_inWindow 21 = .ok (.aload_n 2, 1) := by decide +kernel
theorem dX10_inWindow_22 : decode cX10_inWindow 22 = .ok (.aload_n 0, 1) := by decide +kernel
theorem dX10_inWindow_23 : decode cX10_inWindow 23 = .ok (.getfield 17, 3) := by decide +kernel
theorem dX10_inWindow_26 : decode cX10_inWindow 26 = .ok (.aload_n 0, 1) := by decide +kernel
theorem dX10_inWindow_27 : decode cX10_inWindow 27 = .ok (.getfield 17, 3) := by decide +kernel
theorem dX10_inWindow_30 : decode cX10_inWindow 30 = .ok (.invokevirtual 239, 3) := by decide +kernel
theorem dX10_inWindow_33 : decode cX10_inWindow 33 = .ok (.aload_n 0, 1) := by decide +kernel
theorem dX10_inWindow_34 : decode cX10_inWindow 34 = .ok (.getfield 32, 3) := by decide +kernel
theorem dX10_inWindow_37 : decode cX10_inWindow 37 = .ok (.getfield 243, 3) := by decide +kernel
theorem dX10_inWindow_40 : decode cX10_inWindow 40 = .ok (.ireturn, 1) := by decide +kernel
def f_P_inWindow (F Z : Nat) (s : St) (p1 : Int32) : Option ((Int32 ⊕ Nat) × St) :=
  (f_P_ruleAt F s p1).bind fun x1 => (if x1.1 = none then
    (if sz x1.2 < Z then some (.inr 2, sz' x1.2 (sz x1.2 + 1)) else none)
  else
    ((f_P_pickWindow F x1.2 x1.1 (gI x1.2 2) (gI x1.2 2)).bind fun x2 => (some (.inl (gI x2 201), x2))))
set_option maxHeartbeats 1000000 in
theorem c_f_P_inWindow {F Z : Nat} {s : St} {p1 : Int32} {r : Int32 ⊕ Nat} {s' : St} (hf : f_P_inWindow F Z s p1 = some (r, s')) : CX true yX10_inWindow (Cond.code yX10_inWindow cX10_inWindow 3 (some .int)) (6) (94) (Z - sz s) (12 * (Z - sz s)) (fun B => [.ref (B + 0), .int p1]) s (fun B => (ouI r)) s' (Z - sz s) (12 * (Z - sz s)) := by
  refine CX.ofX (fun B => [(0, .ref (B + 0)), (1, .int p1)]) (by decide +kernel) (fun _ => rfl) (fun _ => (by simp [lg_sl, rfB_cat, catI, catL, catR])) (fun Γ D B X Y hr => ?_)
  have X : Cx Γ RX10 cX10_inWindow 3 D B (RM Γ B Z (6) (94)) := X
  unfold f_P_inWindow at hf
  refine r_aload_n (x := some 0) (pc := 0) X dX10_inWindow_0 0 rfl ?_
  refine r_iload_n (pc := 1) X dX10_inWindow_1 1 rfl ?_
  refine bnd hf (fun x1 h1 hf => ?_)
  refine z_callVq (As := [.int p1]) (st := []) (pc := 2) X (c_f_P_ruleAt h1) rfl w_355 w_357 w_2 w_36 w_358 hdV_X10_ruleAt (Rc.s rfl ce_0) (by decide) (Nat.le_of_ble_eq_true rfl) dX10_inWindow_2 rfl ?_
  refine r_astore_n (pc := 5) (lv' := [(0, .ref (B + 0)), (2, rfB B x1.1)]) X dX10_inWindow_5 (by decide) [1, 0] rfl ?_
  refine r_aload_n (pc := 6) X dX10_inWindow_6 1 rfl ?_
  refine b_ifnonnull (tgt := 20) (pc := 7) X dX10_inWindow_7 (by decide) hf (fun hf => ?_) (fun hf => ?_)
  · exact x_throw (e := 2) (pc := 10) X Y (by decide +kernel) tnames_ok w_359 w_50 thr_2_166 (thg_2_166 _) str_217 rfl (by decide) (by decide) dX10_inWindow_10 dX10_inWindow_13 dX10_inWindow_14 dX10_inWindow_16 dX10_inWindow_19 hf
  · refine r_aload_n (x := some 0) (pc := 20) X dX10_inWindow_20 0 rfl ?_
    refine r_aload_n (pc := 21) X dX10_inWindow_21 1 rfl ?_
    refine r_aload_n (x := some 0) (pc := 22) X dX10_inWindow_22 0 rfl ?_
    refine r_get (j := 2) (pc := 23) X ce_0 rfl inT10 (by decide) w_282 rfl dX10_inWindow_23 ?_
    refine r_aload_n (x := some 0) (pc := 26) X dX10_inWindow_26 0 rfl ?_
    refine r_get (j := 2) (pc := 27) X ce_0 rfl inT10 (by decide) w_282 rfl dX10_inWindow_27 ?_
    refine bnd hf (fun x2 h2 hf => ?_)
    refine z_callVv (As := [rfB B x1.1, .int (gI x1.2 2), .int (gI x1.2 2)]) (st := []) (pc := 30) X (c_f_P_pickWindow h2) rfl w_527 w_529 w_7 w_36 w_530 hdV_X10_pickWindow (Rc.s rfl ce_0) (by decide) (Nat.le_of_ble_eq_true rfl) dX10_inWindow_30 rfl ?_
    refine r_aload_n (x := some 0) (pc := 33) X dX10_inWindow_33 0 rfl ?_
    refine r_get (j := 5) (pc := 34) X ce_0 rfl inT10 (by decide) w_285 rfl dX10_inWindow_34 ?_
    refine r_get (j := 9) (pc := 37) X ce_3 rfl inT2 (by decide) w_87 rfl dX10_inWindow_37 ?_
    exact x_iret (pc := 40) X hr hf dX10_inWindow_40
/-! f_P_rises -/
theorem dX10_rises_0 : decode cX10_rises 0 = .ok (.aload_n 0, 1) := by decide +kernel
theorem dX10_rises_1 : decode cX10_rises 1 = .ok (.iload_n 1, 1) := by decide +kernel
theorem dX10_rises_2 : decode cX10_rises 2 = .ok (.invokevirtual 213, 3) := by decide +kernel
theorem dX10_rises_5 : decode cX10_rises 5 = .ok (.astore_n 2, 1) := by decide +kernel
theorem dX10_rises_6 : decode cX10_rises 6 = .ok (.aload_n 2, 1) := by decide +kernel
theorem dX10_rises_7 : decode cX10_rises 7 = .ok (.ifnonnull 13, 3) := by decide +kernel
theorem dX10_rises_10 : decode cX10_rises 10 = .ok (.new 162, 3) := by decide +kernel
theorem dX10_rises_13 : decode cX10_rises 13 = .ok (.dup, 1) := by decide +kernel
theorem dX10_rises_14 : decode cX10_rises 14 = .ok (.ldc 217, 2) := by decide +kernel
theorem dX10_rises_16 : decode cX10_rises 16 = .ok (.invokespecial 166, 3) := by decide +kernel
theorem dX10_rises_19 : decode cX10_rises 19 = .ok (.athrow, 1) := by decide +kernel
theorem dX10_rises_20 : decode cX10_rises 20 = .ok (.aload_n 2, 1) := by decide +kernel
theorem dX10_rises_21 : decode cX10_rises 21 = .ok (.getfield 228, 3) := by decide +kernel
theorem dX10_rises_24 : decode cX10_rises 24 = .ok (.ireturn, 1) := by decide +kernel
def f_P_rises (F Z : Nat) (s : St) (p1 : Int32) : Option ((Int32 ⊕ Nat) × St) :=
  (f_P_ruleAt F s p1).bind fun x1 => (if x1.1 = none then
    (if sz x1.2 < Z then some (.inr 2, sz' x1.2 (sz x1.2 + 1)) else none)
  else
    ((dgo x1.2 x1.1 6).bind fun o2 => (some (.inl (o2.2.1 9), x1.2))))
set_option maxHeartbeats 1000000 in
theorem c_f_P_rises {F Z : Nat} {s : St} {p1 : Int32} {r : Int32 ⊕ Nat} {s' : St} (hf : f_P_rises F Z s p1 = some (r, s')) : CX true yX10_rises (Cond.code yX10_rises cX10_rises 3 (some .int)) (6) (90) (Z - sz s) (12 * (Z - sz s)) (fun B => [.ref (B + 0), .int p1]) s (fun B => (ouI r)) s' (Z - sz s) (12 * (Z - sz s)) := by
  refine CX.ofX (fun B => [(0, .ref (B + 0)), (1, .int p1)]) (by decide +kernel) (fun _ => rfl) (fun _ => (by simp [lg_sl, rfB_cat, catI, catL, catR])) (fun Γ D B X Y hr => ?_)
  have X : Cx Γ RX10 cX10_rises 3 D B (RM Γ B Z (6) (90)) := X
  unfold f_P_rises at hf
  refine r_aload_n (x := some 0) (pc := 0) X dX10_rises_0 0 rfl ?_
  refine r_iload_n (pc := 1) X dX10_rises_1 1 rfl ?_
  refine bnd hf (fun x1 h1 hf => ?_)
  refine z_callVq (As := [.int p1]) (st := []) (pc := 2) X (c_f_P_ruleAt h1) rfl w_355 w_357 w_2 w_36 w_358 hdV_X10_ruleAt (Rc.s rfl ce_0) (by decide) (Nat.le_of_ble_eq_true rfl) dX10_rises_2 rfl ?_
  refine r_astore_n (pc := 5) (lv' := [(2, rfB B x1.1)]) X dX10_rises_5 (by decide) [0] rfl ?_
  refine r_aload_n (pc := 6) X dX10_rises_6 0 rfl ?_
  refine b_ifnonnull (tgt := 20) (pc := 7) X dX10_rises_7 (by decide) hf (fun hf => ?_) (fun hf => ?_)
  · exact x_throw (e := 2) (pc := 10) X Y (by decide +kernel) tnames_ok w_359 w_50 thr_2_166 (thg_2_166 _) str_217 rfl (by decide) (by decide) dX10_rises_10 dX10_rises_13 dX10_rises_14 dX10_rises_16 dX10_rises_19 hf
  · refine r_aload_n (pc := 20) X dX10_rises_20 0 rfl ?_
    refine b_dgetI (j := 9) (pc := 21) X rfl inT6 (by decide) w_732 rfl dX10_rises_21 hf (fun o2 hf => ?_)
    exact x_iret (pc := 24) X hr hf dX10_rises_24
/-! f_P_risesAnew -/
theorem dX10_risesAnew_0 : decode cX10_risesAnew 0 = .ok (.aload_n 0, 1) := by decide +kernel
theorem dX10_risesAnew_1 : decode cX10_risesAnew 1 = .ok (.iload_n 1, 1) := by decide +kernel
theorem dX10_risesAnew_2 : decode cX10_risesAnew 2 = .ok (.invokevirtual 213, 3) := by decide +kernel
theorem dX10_risesAnew_5 : decode cX10_risesAnew 5 = .ok (.astore_n 2, 1) := by decide +kernel
theorem dX10_risesAnew_6 : decode cX10_risesAnew 6 = .ok (.aload_n 2, 1) := by decide +kernel
theorem dX10_risesAnew_7 : decode cX10_risesAnew 7 = .ok (.ifnonnull 13, 3) := by decide +kernel
theorem dX10_risesAnew_10 : decode cX10_risesAnew 10 = .ok (.new 162, 3) := by decide +kernel
theorem dX10_risesAnew_13 : decode cX10_risesAnew 13 = .ok (.dup, 1) := by decide +kernel
theorem dX10_risesAnew_14 : decode cX10_risesAnew 14 = .ok (.ldc 217, 2) := by decide +kernel
theorem dX10_risesAnew_16 : decode cX10_risesAnew 16 = .ok (.invokespecial 166, 3) := by decide +kernel
theorem dX10_risesAnew_19 : decode cX10_risesAnew 19 = .ok (.athrow, 1) := by decide +kernel
theorem dX10_risesAnew_20 : decode cX10_risesAnew 20 = .ok (.aload_n 2, 1) := by decide +kernel
theorem dX10_risesAnew_21 : decode cX10_risesAnew 21 = .ok (.invokevirtual 219, 3) := by decide +kernel
theorem dX10_risesAnew_24 : decode cX10_risesAnew 24 = .ok (.ifCond .eq 10, 3) := by decide +kernel
theorem dX10_risesAnew_27 : decode cX10_risesAnew 27 = .ok (.aload_n 2, 1) := by decide +kernel
theorem dX10_risesAnew_28 : decode cX10_risesAnew 28 = .ok (.getfield 225, 3) := by decide +kernel
theorem dX10_risesAnew_31 : decode cX10_risesAnew 31 = .ok (.goto 7, 3) := by decide +kernel
theorem dX10_risesAnew_34 : decode cX10_risesAnew 34 = .ok (.aload_n 0, 1) := by decide +kernel
theorem dX10_risesAnew_35 : decode cX10_risesAnew 35 = .ok (.getfield 17, 3) := by decide +kernel
theorem dX10_risesAnew_38 : decode cX10_risesAnew 38 = .ok (.istore_n 3, 1) := by decide +kernel
theorem dX10_risesAnew_39 : decode cX10_risesAnew 39 = .ok (.iconst 0, 1) := by decide +kernel
theorem dX10_risesAnew_40 : decode cX10_risesAnew 40 = .ok (.istore 4, 2) := by decide +kernel
theorem dX10_risesAnew_42 : decode cX10_risesAnew 42 = .ok (.iconst (-1), 1) := by decide +kernel
theorem dX10_risesAnew_43 : decode cX10_risesAnew 43 = .ok (.istore 5, 2) := by decide +kernel
theorem dX10_risesAnew_45 : decode cX10_risesAnew 45 = .ok (.aload_n 2, 1) := by decide +kernel
theorem dX10_risesAnew_46 : decode cX10_risesAnew 46 = .ok (.getfield 246, 3) := by decide +kernel
theorem dX10_risesAnew_49 : decode cX10_risesAnew 49 = .ok (.iconst 1, 1) := by decide +kernel
theorem dX10_risesAnew_50 : decode cX10_risesAnew 50 = .ok (.iadd, 1) := by decide +kernel
theorem dX10_risesAnew_51 : decode cX10_risesAnew 51 = .ok (.istore 6, 2) := by decide +kernel
theorem dX10_risesAnew_53 : decode cX10_risesAnew 53 = .ok (.iload 6, 2) := by decide +kernel
theorem dX10_risesAnew_55 : decode cX10_risesAnew 55 = .ok (.iload_n 3, 1) := by decide +kernel
theorem dX10_risesAnew_56 : decode cX10_risesAnew 56 = .ok (.if_icmp .gt 28, 3) := by decide +kernel
theorem dX10_risesAnew_59 : decode cX10_risesAnew 59 = .ok (.aload_n 0, 1) := by decide +kernel
theorem dX10_risesAnew_60 : decode cX10_risesAnew 60 = .ok (.aload_n 2, 1) := by decide +kernel
theorem dX10_risesAnew_61 : decode cX10_risesAnew 61 = .ok (.iload 6, 2) := by decide +kernel
theorem dX10_risesAnew_63 : decode cX10_risesAnew 63 = .ok (.iload 5, 2) := by decide +kernel
theorem dX10_risesAnew_65 : decode cX10_risesAnew 65 = .ok (.invokevirtual 249, 3) := by decide +kernel
theorem dX10_risesAnew_68 : decode cX10_risesAnew 68 = .ok (.ifCond .eq 10, 3) := by decide +kernel
theorem dX10_risesAnew_71 : decode cX10_risesAnew 71 = .ok (.iload 6, 2) := by decide +kernel
theorem dX10_risesAnew_73 : decode cX10_risesAnew 73 = .ok (.istore 5, 2) := by decide +kernel
theorem dX10_risesAnew_75 : decode cX10_risesAnew 75 = .ok (.iinc 4 1, 3) := by decide +kernel
theorem dX10_risesAnew_78 : decode cX10_risesAnew 78 = .ok (.iinc 6 1, 3) := by decide +kernel
theorem dX10_risesAnew_81 : decode cX10_risesAnew 81 = .ok (.goto (-28), 3) := by decide +kernel
theorem dX10_risesAnew_84 : decode cX10_risesAnew 84 = .ok (.iload 4, 2) := by decide +kernel
theorem dX10_risesAnew_86 : decode cX10_risesAnew 86 = .ok (.ireturn, 1) := by decide +kernel
def f_P_risesAnew_b53 (F Z : Nat) : Nat → St → Option Nat → Int32 → Int32 → Int32 → Int32 → Option ((Int32 ⊕ Nat) × St)
  | 0, _, _, _, _, _, _ => none
  | n + 1, s, l2, l3, l4, l5, l6 =>
    if l3 < l6 then
      (some (.inl l4, s))
    else
      ((f_P_isDue F s l2 l6 l5).bind fun x4 => (if x4.1 = 0 then
        (f_P_risesAnew_b53 F Z n x4.2 l2 l3 l4 l5 (l6 + 1))
      else
        (f_P_risesAnew_b53 F Z n x4.2 l2 l3 (l4 + 1) l6 (l6 + 1))))
def f_P_risesAnew (F Z : Nat) (s : St) (p1 : Int32) : Option ((Int32 ⊕ Nat) × St) :=
  (f_P_ruleAt F s p1).bind fun x1 => (if x1.1 = none then
    (if sz x1.2 < Z then some (.inr 2, sz' x1.2 (sz x1.2 + 1)) else none)
  else
    ((dgo x1.2 x1.1 6).bind fun _ => ((f_Rule_isDropped F x1.2 x1.1).bind fun x2 => (if x2.1 = 0 then
      ((dgo x2.2 x1.1 6).bind fun o3 => (f_P_risesAnew_b53 F Z F x2.2 x1.1 (gI x2.2 2) 0 (-1) ((o3.2.1 4) + 1)))
    else
      ((dgo x2.2 x1.1 6).bind fun o5 => ((dgo x2.2 x1.1 6).bind fun o6 => (f_P_risesAnew_b53 F Z F x2.2 x1.1 (o5.2.1 5) 0 (-1) ((o6.2.1 4) + 1))))))))
set_option maxHeartbeats 1000000 in
theorem c_f_P_risesAnew_b53 {F Z : Nat} {Γ : Ga} {D : DD} {B : Nat} {r : Int32 ⊕ Nat} {s' : St} (X : Cx Γ RX10 cX10_risesAnew 7 D B (RM Γ B Z (203) (4669))) (Y : Xx Γ B) (hr : (Gme Γ).sig.returnType = (some .int)) : ∀ (n : Nat) {s : St} {l2 : Option Nat} {l3 : Int32} {l4 : Int32} {l5 : Int32} {l6 : Int32}, f_P_risesAnew_b53 F Z n s l2 l3 l4 l5 l6 = some (r, s') → V Γ D B true 7 (QX Γ D B true s' (ouI r) (RZ Γ B Z) (12 * RZ Γ B Z)) (kz Γ B Z s) (12 * kz Γ B Z s) s 53 [(0, .ref (B + 0)), (2, rfB B l2), (3, .int l3), (4, .int l4), (5, .int l5), (6, .int l6)] [] := by
  intro n
  induction n with
  | zero => intro s l2 l3 l4 l5 l6 hf; rw [f_P_risesAnew_b53] at hf; cases hf
  | succ n ih =>
    intro s l2 l3 l4 l5 l6 hf
    rw [f_P_risesAnew_b53] at hf
    refine r_iload (pc := 53) X dX10_risesAnew_53 5 rfl ?_
    refine r_iload_n (pc := 55) X dX10_risesAnew_55 2 rfl ?_
    refine b_icmp_gt (tgt := 84) (pc := 56) X dX10_risesAnew_56 (by decide) hf (fun hf => ?_) (fun hf => ?_)
    · refine r_iload (pc := 84) X dX10_risesAnew_84 3 rfl ?_
      exact x_iret (pc := 86) X hr hf dX10_risesAnew_86
    · refine r_aload_n (x := some 0) (pc := 59) X dX10_risesAnew_59 0 rfl ?_
      refine r_aload_n (pc := 60) X dX10_risesAnew_60 1 rfl ?_
      refine r_iload (pc := 61) X dX10_risesAnew_61 5 rfl ?_
      refine r_iload (pc := 63) X dX10_risesAnew_63 4 rfl ?_
      refine bnd hf (fun x4 h4 hf => ?_)
      refine z_callVi (As := [rfB B l2, .int l6, .int l5]) (st := []) (pc := 65) X (c_f_P_isDue h4) rfl w_514 w_516 w_6 w_36 w_517 hdV_X10_isDue (Rc.s rfl ce_0) (by decide) (Nat.le_of_ble_eq_true rfl) dX10_risesAnew_65 rfl ?_
      refine b_if_eq (tgt := 78) (pc := 68) X dX10_risesAnew_68 (by decide) hf (fun hf => ?_) (fun hf => ?_)
      · refine r_iinc (v := l6 + 1) (lv' := [(0, .ref (B + 0)), (2, rfB B l2), (3, .int l3), (4, .int l4), (5, .int l5), (6, .int (l6 + 1))]) (pc := 78) X dX10_risesAnew_78 5 rfl rfl (by decide) [1, 2, 3, 4, 5, 0] rfl ?_
        refine r_goto (tgt := 53) (pc := 81) X dX10_risesAnew_81 (by decide) ?_
        exact ih hf
      · refine r_iload (pc := 71) X dX10_risesAnew_71 5 rfl ?_
        refine r_istore (pc := 73) (lv' := [(0, .ref (B + 0)), (2, rfB B l2), (3, .int l3), (4, .int l4), (5, .int l6), (6, .int l6)]) X dX10_risesAnew_73 (by decide) [1, 2, 3, 4, 0, 5] rfl ?_
        refine r_iinc (v := l4 + 1) (lv' := [(0, .ref (B + 0)), (2, rfB B l2), (3, .int l3), (4, .int (l4 + 1)), (5, .int l6), (6, .int l6)]) (pc := 75) X dX10_risesAnew_75 3 rfl rfl (by decide) [1, 2, 3, 0, 4, 5] rfl ?_
        refine r_iinc (v := l6 + 1) (lv' := [(0, .ref (B + 0)), (2, rfB B l2), (3, .int l3), (4, .int (l4 + 1)), (5, .int l6), (6, .int (l6 + 1))]) (pc := 78) X dX10_risesAnew_78 5 rfl rfl (by decide) [1, 2, 3, 4, 5, 0] rfl ?_
        refine r_goto (tgt := 53) (pc := 81) X dX10_risesAnew_81 (by decide) ?_
        exact ih hf
set_option maxHeartbeats 1000000 in
theorem c_f_P_risesAnew {F Z : Nat} {s : St} {p1 : Int32} {r : Int32 ⊕ Nat} {s' : St} (hf : f_P_risesAnew F Z s p1 = some (r, s')) : CX true yX10_risesAnew (Cond.code yX10_risesAnew cX10_risesAnew 7 (some .int)) (203) (4669) (Z - sz s) (12 * (Z - sz s)) (fun B => [.ref (B + 0), .int p1]) s (fun B => (ouI r)) s' (Z - sz s) (12 * (Z - sz s)) := by
  refine CX.ofX (fun B => [(0, .ref (B + 0)), (1, .int p1)]) (by decide +kernel) (fun _ => rfl) (fun _ => (by simp [lg_sl, rfB_cat, catI, catL, catR])) (fun Γ D B X Y hr => ?_)
  have X : Cx Γ RX10 cX10_risesAnew 7 D B (RM Γ B Z (203) (4669)) := X
  unfold f_P_risesAnew at hf
  refine r_aload_n (x := some 0) (pc := 0) X dX10_risesAnew_0 0 rfl ?_
  refine r_iload_n (pc := 1) X dX10_risesAnew_1 1 rfl ?_
  refine bnd hf (fun x1 h1 hf => ?_)
  refine z_callVq (As := [.int p1]) (st := []) (pc := 2) X (c_f_P_ruleAt h1) rfl w_355 w_357 w_2 w_36 w_358 hdV_X10_ruleAt (Rc.s rfl ce_0) (by decide) (Nat.le_of_ble_eq_true rfl) dX10_risesAnew_2 rfl ?_
  refine r_astore_n (pc := 5) (lv' := [(0, .ref (B + 0)), (2, rfB B x1.1)]) X dX10_risesAnew_5 (by decide) [1, 0] rfl ?_
  refine r_aload_n (pc := 6) X dX10_risesAnew_6 1 rfl ?_
  refine b_ifnonnull (tgt := 20) (pc := 7) X dX10_risesAnew_7 (by decide) hf (fun hf => ?_) (fun hf => ?_)
  · exact x_throw (e := 2) (pc := 10) X Y (by decide +kernel) tnames_ok w_359 w_50 thr_2_166 (thg_2_166 _) str_217 rfl (by decide) (by decide) dX10_risesAnew_10 dX10_risesAnew_13 dX10_risesAnew_14 dX10_risesAnew_16 dX10_risesAnew_19 hf
  · refine r_aload_n (pc := 20) X dX10_risesAnew_20 1 rfl ?_
    refine b_recv (w := true) (B := B) (D := D) rfl hf (fun a hx hrc hf => ?_)
    refine bnd hf (fun x2 h2 hf => ?_)
    refine z_callVi (As := []) (st := []) (pc := 21) X (c_f_Rule_isDropped h2) (by rw [hx]; rfl) w_510 w_511 w_512 w_54 w_513 hdV_X6_isDropped hrc (by decide) (Nat.le_of_ble_eq_true rfl) dX10_risesAnew_21 (by rw [hx]; rfl) ?_
    refine b_if_eq (tgt := 34) (pc := 24) X dX10_risesAnew_24 (by decide) hf (fun hf => ?_) (fun hf => ?_)
    · refine r_aload_n (x := some 0) (pc := 34) X dX10_risesAnew_34 0 rfl ?_
      refine r_get (j := 2) (pc := 35) X ce_0 rfl inT10 (by decide) w_282 rfl dX10_risesAnew_35 ?_
      refine r_istore_n (pc := 38) (lv' := [(0, .ref (B + 0)), (2, rfB B x1.1), (3, .int (gI x2.2 2))]) X dX10_risesAnew_38 (by decide) [1, 2, 0] (by simp [lv_pick, rfB_cat, catI, catL, catR, show ((3 : Fin 4) : Nat) = 3 from rfl]) ?_
      refine r_iconst (v := 0) (pc := 39) X dX10_risesAnew_39 (by decide) ?_
      refine r_istore (pc := 40) (lv' := [(0, .ref (B + 0)), (2, rfB B x1.1), (3, .int (gI x2.2 2)), (4, .int 0)]) X dX10_risesAnew_40 (by decide) [1, 2, 3, 0] rfl ?_
      refine r_iconst (v := -1) (pc := 42) X dX10_risesAnew_42 (by decide) ?_
      refine r_istore (pc := 43) (lv' := [(0, .ref (B + 0)), (2, rfB B x1.1), (3, .int (gI x2.2 2)), (4, .int 0), (5, .int (-1))]) X dX10_risesAnew_43 (by decide) [1, 2, 3, 4, 0] rfl ?_
      refine r_aload_n (pc := 45) X dX10_risesAnew_45 1 rfl ?_
      refine b_dgetI (j := 4) (pc := 46) X rfl inT6 (by decide) w_724 rfl dX10_risesAnew_46 hf (fun o3 hf => ?_)
      refine r_iconst (v := 1) (pc := 49) X dX10_risesAnew_49 (by decide) ?_
      refine r_iadd (pc := 50) X dX10_risesAnew_50 ?_
      refine r_istore (pc := 51) (lv' := [(0, .ref (B + 0)), (2, rfB B x1.1), (3, .int (gI x2.2 2)), (4, .int 0), (5, .int (-1)), (6, .int ((o3.2.1 4) + 1))]) X dX10_risesAnew_51 (by decide) [1, 2, 3, 4, 5, 0] rfl ?_
      exact c_f_P_risesAnew_b53 X Y hr _ hf
    · refine r_aload_n (pc := 27) X dX10_risesAnew_27 1 rfl ?_
      refine b_dgetI (j := 5) (pc := 28) X rfl inT6 (by decide) w_726 rfl dX10_risesAnew_28 hf (fun o5 hf => ?_)
      refine r_goto (tgt := 38) (pc := 31) X dX10_risesAnew_31 (by decide) ?_
      refine r_istore_n (pc := 38) (lv' := [(0, .ref (B + 0)), (2, rfB B x1.1), (3, .int (o5.2.1 5))]) X dX10_risesAnew_38 (by decide) [1, 2, 0] (by simp [lv_pick, rfB_cat, catI, catL, catR, show ((3 : Fin 4) : Nat) = 3 from rfl]) ?_
      refine r_iconst (v := 0) (pc := 39) X dX10_risesAnew_39 (by decide) ?_
      refine r_istore (pc := 40) (lv' := [(0, .ref (B + 0)), (2, rfB B x1.1), (3, .int (o5.2.1 5)), (4, .int 0)]) X dX10_risesAnew_40 (by decide) [1, 2, 3, 0] rfl ?_
      refine r_iconst (v := -1) (pc := 42) X dX10_risesAnew_42 (by decide) ?_
      refine r_istore (pc := 43) (lv' := [(0, .ref (B + 0)), (2, rfB B x1.1), (3, .int (o5.2.1 5)), (4, .int 0), (5, .int (-1))]) X dX10_risesAnew_43 (by decide) [1, 2, 3, 4, 0] rfl ?_
      refine r_aload_n (pc := 45) X dX10_risesAnew_45 1 rfl ?_
      refine b_dgetI (j := 4) (pc := 46) X rfl inT6 (by decide) w_724 rfl dX10_risesAnew_46 hf (fun o6 hf => ?_)
      refine r_iconst (v := 1) (pc := 49) X dX10_risesAnew_49 (by decide) ?_
      refine r_iadd (pc := 50) X dX10_risesAnew_50 ?_
      refine r_istore (pc := 51) (lv' := [(0, .ref (B + 0)), (2, rfB B x1.1), (3, .int (o5.2.1 5)), (4, .int 0), (5, .int (-1)), (6, .int ((o6.2.1 4) + 1))]) X dX10_risesAnew_51 (by decide) [1, 2, 3, 4, 5, 0] rfl ?_
      exact c_f_P_risesAnew_b53 X Y hr _ hf
/-! f_P_alarm -/
theorem dX10_alarm_0 : decode cX10_alarm 0 = .ok (.aload_n 0, 1) := by decide +kernel
theorem dX10_alarm_1 : decode cX10_alarm 1 = .ok (.getfield 46, 3) := by decide +kernel
theorem dX10_alarm_4 : decode cX10_alarm 4 = .ok (.iload_n 1, 1) := by decide +kernel
theorem dX10_alarm_5 : decode cX10_alarm 5 = .ok (.invokevirtual 256, 3) := by decide +kernel
theorem dX10_alarm_8 : decode cX10_alarm 8 = .ok (.ifCond .ne 14, 3) := by decide +kernel
theorem dX10_alarm_11 : decode cX10_alarm 11 = .ok (.new 162, 3) := by decide +kernel
theorem dX10_alarm_14 : decode cX10_alarm 14 = .ok (.dup, 1) := by decide +kernel
theorem dX10_alarm_15 : decode cX10_alarm 15 = .ok (.ldc_w 259, 3) := by decide +kernel
theorem dX10_alarm_18 : decode cX10_alarm 18 = .ok (.invokespecial 166, 3) := by decide +kernel
theorem dX10_alarm_21 : decode cX10_alarm 21 = .ok (.athrow, 1) := by decide +kernel
theorem dX10_alarm_22 : decode cX10_alarm 22 = .ok (.sipush 10000, 3) := by decide +kernel
theorem dX10_alarm_25 : decode cX10_alarm 25 = .ok (.aload_n 0, 1) := by decide +kernel
theorem dX10_alarm_26 : decode cX10_alarm 26 = .ok (.getfield 46, 3) := by decide +kernel
theorem dX10_alarm_29 : decode cX10_alarm 29 = .ok (.getfield 261, 3) := by decide +kernel
theorem dX10_alarm_32 : decode cX10_alarm 32 = .ok (.iload_n 1, 1) := by decide +kernel
theorem dX10_alarm_33 : decode cX10_alarm 33 = .ok (.iaload, 1) := by decide +kernel
theorem dX10_alarm_34 : decode cX10_alarm 34 = .ok (.imul, 1) := by decide +kernel
theorem dX10_alarm_35 : decode cX10_alarm 35 = .ok (.aload_n 0, 1) := by decide +kernel
theorem dX10_alarm_36 : decode cX10_alarm 36 = .ok (.getfield 46, 3) := by decide +kernel
theorem dX10_alarm_39 : decode cX10_alarm 39 = .ok (.getfield 263, 3) := by decide +kernel
theorem dX10_alarm_42 : decode cX10_alarm 42 = .ok (.iload_n 1, 1) := by decide +kernel
theorem dX10_alarm_43 : decode cX10_alarm 43 = .ok (.iaload, 1) := by decide +kernel
theorem dX10_alarm_44 : decode cX10_alarm 44 = .ok (.iadd, 1) := by decide +kernel
theorem dX10_alarm_45 : decode cX10_alarm 45 = .ok (.ireturn, 1) := by decide +kernel
def f_P_alarm (F Z : Nat) (s : St) (p1 : Int32) : Option ((Int32 ⊕ Nat) × St) :=
  (f_Alarms_has F s p1).bind fun x1 => (if x1.1 = 0 then
    (if sz x1.2 < Z then some (.inr 2, sz' x1.2 (sz x1.2 + 1)) else none)
  else
    ((ix 4000 p1).bind fun j2 => ((ix 4000 p1).bind fun j3 => (some (.inl (((10000 : Int32) * (gA x1.2 19 j2)) + (gA x1.2 20 j3)), x1.2)))))
set_option maxHeartbeats 1000000 in
theorem c_f_P_alarm {F Z : Nat} {s : St} {p1 : Int32} {r : Int32 ⊕ Nat} {s' : St} (hf : f_P_alarm F Z s p1 = some (r, s')) : CX true yX10_alarm (Cond.code yX10_alarm cX10_alarm 2 (some .int)) (6) (90) (Z - sz s) (12 * (Z - sz s)) (fun B => [.ref (B + 0), .int p1]) s (fun B => (ouI r)) s' (Z - sz s) (12 * (Z - sz s)) := by
  refine CX.ofX (fun B => [(0, .ref (B + 0)), (1, .int p1)]) (by decide +kernel) (fun _ => rfl) (fun _ => (by simp [lg_sl, rfB_cat, catI, catL, catR])) (fun Γ D B X Y hr => ?_)
  have X : Cx Γ RX10 cX10_alarm 2 D B (RM Γ B Z (6) (90)) := X
  unfold f_P_alarm at hf
  refine r_aload_n (x := some 0) (pc := 0) X dX10_alarm_0 0 rfl ?_
  refine r_get (j := 7) (pc := 1) X ce_0 rfl inT10 (by decide) w_287 rfl dX10_alarm_1 ?_
  refine r_iload_n (pc := 4) X dX10_alarm_4 1 rfl ?_
  refine bnd hf (fun x1 h1 hf => ?_)
  refine z_callVi (As := [.int p1]) (st := []) (pc := 5) X (c_f_Alarms_has h1) rfl w_778 w_779 w_780 w_40 w_781 hdV_X0_has (Rc.s rfl ce_18) (by decide) (Nat.le_of_ble_eq_true rfl) dX10_alarm_5 rfl ?_
  refine b_if_ne (tgt := 22) (pc := 8) X dX10_alarm_8 (by decide) hf (fun hf => ?_) (fun hf => ?_)
  · exact x_throwW (e := 2) (pc := 11) X Y (by decide +kernel) tnames_ok w_359 w_50 thr_2_166 (thg_2_166 _) str_259 rfl (by decide) (by decide) dX10_alarm_11 dX10_alarm_14 dX10_alarm_15 dX10_alarm_18 dX10_alarm_21 hf
  · refine r_sipush (v := 10000) (pc := 22) X dX10_alarm_22 (by decide) ?_
    refine r_aload_n (x := some 0) (pc := 25) X dX10_alarm_25 0 rfl ?_
    refine r_get (j := 7) (pc := 26) X ce_0 rfl inT10 (by decide) w_287 rfl dX10_alarm_26 ?_
    refine r_get (j := 0) (pc := 29) X ce_18 rfl inT0 (by decide) w_151 rfl dX10_alarm_29 ?_
    refine r_iload_n (pc := 32) X dX10_alarm_32 1 rfl ?_
    refine b_iald (pc := 33) X ce_19 dX10_alarm_33 hf (fun j2 hf => ?_)
    refine r_imul (pc := 34) X dX10_alarm_34 ?_
    refine r_aload_n (x := some 0) (pc := 35) X dX10_alarm_35 0 rfl ?_
    refine r_get (j := 7) (pc := 36) X ce_0 rfl inT10 (by decide) w_287 rfl dX10_alarm_36 ?_
    refine r_get (j := 1) (pc := 39) X ce_18 rfl inT0 (by decide) w_153 rfl dX10_alarm_39 ?_
    refine r_iload_n (pc := 42) X dX10_alarm_42 1 rfl ?_
    refine b_iald (pc := 43) X ce_20 dX10_alarm_43 hf (fun j3 hf => ?_)
    refine r_iadd (pc := 44) X dX10_alarm_44 ?_
    exact x_iret (pc := 45) X hr hf dX10_alarm_45
/-! f_P_woken -/
theorem dX10_woken_0 : decode cX10_woken 0 = .ok (.aload_n 0, 1) := by decide +kernel
theorem dX10_woken_1 : decode cX10_woken 1 = .ok (.getfield 46, 3) := by decide +kernel
theorem dX10_woken_4 : decode cX10_woken 4 = .ok (.iload_n 1, 1) := by decide +kernel
theorem dX10_woken_5 : decode cX10_woken 5 = .ok (.invokevirtual 256, 3) := by decide +kernel
theorem dX10_woken_8 : decode cX10_woken 8 = .ok (.ifCond .ne 14, 3) := by decide +kernel
theorem dX10_woken_11 : decode cX10_woken 11 = .ok (.new 162, 3) := by decide +kernel
theorem dX10_woken_14 : decode cX10_woken 14 = .ok (.dup, 1) := by decide +kernel
theorem dX10_woken_15 : decode cX10_woken 15 = .ok (.ldc_w 259, 3) := by decide +kernel
theorem dX10_woken_18 : decode cX10_woken 18 = .ok (.invokespecial 166, 3) := by decide +kernel
theorem dX10_woken_21 : decode cX10_woken 21 = .ok (.athrow, 1) := by decide +kernel
theorem dX10_woken_22 : decode cX10_woken 22 = .ok (.aload_n 0, 1) := by decide +kernel
theorem dX10_woken_23 : decode cX10_woken 23 = .ok (.getfield 46, 3) := by decide +kernel
theorem dX10_woken_26 : decode cX10_woken 26 = .ok (.iload_n 1, 1) := by decide +kernel
theorem dX10_woken_27 : decode cX10_woken 27 = .ok (.invokevirtual 266, 3) := by decide +kernel
theorem dX10_woken_30 : decode cX10_woken 30 = .ok (.ifCond .eq 7, 3) := by decide +kernel
theorem dX10_woken_33 : decode cX10_woken 33 = .ok (.iconst (-1), 1) := by decide +kernel
theorem dX10_woken_34 : decode cX10_woken 34 = .ok (.goto 12, 3) := by decide +kernel
theorem dX10_woken_37 : decode cX10_woken 37 = .ok (.aload_n 0, 1) := by decide +kernel
theorem dX10_woken_38 : decode cX10_woken 38 = .ok (.getfield 46, 3) := by decide +kernel
theorem dX10_woken_41 : decode cX10_woken 41 = .ok (.getfield 269, 3) := by decide +kernel
theorem dX10_woken_44 : decode cX10_woken 44 = .ok (.iload_n 1, 1) := by decide +kernel
theorem dX10_woken_45 : decode cX10_woken 45 = .ok (.iaload, 1) := by decide +kernel
theorem dX10_woken_46 : decode cX10_woken 46 = .ok (.ireturn, 1) := by decide +kernel
def f_P_woken (F Z : Nat) (s : St) (p1 : Int32) : Option ((Int32 ⊕ Nat) × St) :=
  (f_Alarms_has F s p1).bind fun x1 => (if x1.1 = 0 then
    (if sz x1.2 < Z then some (.inr 2, sz' x1.2 (sz x1.2 + 1)) else none)
  else
    ((f_Alarms_waits F x1.2 p1).bind fun x2 => (if x2.1 = 0 then
      ((ix 4000 p1).bind fun j3 => (some (.inl (gA x2.2 21 j3), x2.2)))
    else
      (some (.inl (-1), x2.2)))))
set_option maxHeartbeats 1000000 in
theorem c_f_P_woken {F Z : Nat} {s : St} {p1 : Int32} {r : Int32 ⊕ Nat} {s' : St} (hf : f_P_woken F Z s p1 = some (r, s')) : CX true yX10_woken (Cond.code yX10_woken cX10_woken 2 (some .int)) (6) (90) (Z - sz s) (12 * (Z - sz s)) (fun B => [.ref (B + 0), .int p1]) s (fun B => (ouI r)) s' (Z - sz s) (12 * (Z - sz s)) := by
  refine CX.ofX (fun B => [(0, .ref (B + 0)), (1, .int p1)]) (by decide +kernel) (fun _ => rfl) (fun _ => (by simp [lg_sl, rfB_cat, catI, catL, catR])) (fun Γ D B X Y hr => ?_)
  have X : Cx Γ RX10 cX10_woken 2 D B (RM Γ B Z (6) (90)) := X
  unfold f_P_woken at hf
  refine r_aload_n (x := some 0) (pc := 0) X dX10_woken_0 0 rfl ?_
  refine r_get (j := 7) (pc := 1) X ce_0 rfl inT10 (by decide) w_287 rfl dX10_woken_1 ?_
  refine r_iload_n (pc := 4) X dX10_woken_4 1 rfl ?_
  refine bnd hf (fun x1 h1 hf => ?_)
  refine z_callVi (As := [.int p1]) (st := []) (pc := 5) X (c_f_Alarms_has h1) rfl w_778 w_779 w_780 w_40 w_781 hdV_X0_has (Rc.s rfl ce_18) (by decide) (Nat.le_of_ble_eq_true rfl) dX10_woken_5 rfl ?_
  refine b_if_ne (tgt := 22) (pc := 8) X dX10_woken_8 (by decide) hf (fun hf => ?_) (fun hf => ?_)
  · exact x_throwW (e := 2) (pc := 11) X Y (by decide +kernel) tnames_ok w_359 w_50 thr_2_166 (thg_2_166 _) str_259 rfl (by decide) (by decide) dX10_woken_11 dX10_woken_14 dX10_woken_15 dX10_woken_18 dX10_woken_21 hf
  · refine r_aload_n (x := some 0) (pc := 22) X dX10_woken_22 0 rfl ?_
    refine r_get (j := 7) (pc := 23) X ce_0 rfl inT10 (by decide) w_287 rfl dX10_woken_23 ?_
    refine r_iload_n (pc := 26) X dX10_woken_26 1 rfl ?_
    refine bnd hf (fun x2 h2 hf => ?_)
    refine z_callVi (As := [.int p1]) (st := []) (pc := 27) X (c_f_Alarms_waits h2) rfl w_783 w_784 w_785 w_40 w_786 hdV_X0_waits (Rc.s rfl ce_18) (by decide) (Nat.le_of_ble_eq_true rfl) dX10_woken_27 rfl ?_
    refine b_if_eq (tgt := 37) (pc := 30) X dX10_woken_30 (by decide) hf (fun hf => ?_) (fun hf => ?_)
    · refine r_aload_n (x := some 0) (pc := 37) X dX10_woken_37 0 rfl ?_
      refine r_get (j := 7) (pc := 38) X ce_0 rfl inT10 (by decide) w_287 rfl dX10_woken_38 ?_
      refine r_get (j := 2) (pc := 41) X ce_18 rfl inT0 (by decide) w_155 rfl dX10_woken_41 ?_
      refine r_iload_n (pc := 44) X dX10_woken_44 1 rfl ?_
      refine b_iald (pc := 45) X ce_21 dX10_woken_45 hf (fun j3 hf => ?_)
      exact x_iret (pc := 46) X hr hf dX10_woken_46
    · refine r_iconst (v := -1) (pc := 33) X dX10_woken_33 (by decide) ?_
      refine r_goto (tgt := 46) (pc := 34) X dX10_woken_34 (by decide) ?_
      exact x_iret (pc := 46) X hr hf dX10_woken_46
/-! f_P_wokenAt -/
theorem dX10_wokenAt_0 : decode cX10_wokenAt 0 = .ok (.aload_n 0, 1) := by decide +kernel
theorem dX10_wokenAt_1 : decode cX10_wokenAt 1 = .ok (.getfield 46, 3) := by decide +kernel
theorem dX10_wokenAt_4 : decode cX10_wokenAt 4 = .ok (.iload_n 1, 1) := by decide +kernel
theorem dX10_wokenAt_5 : decode cX10_wokenAt 5 = .ok (.invokevirtual 256, 3) := by decide +kernel
theorem dX10_wokenAt_8 : decode cX10_wokenAt 8 = .ok (.ifCond .ne 14, 3) := by decide +kernel
theorem dX10_wokenAt_11 : decode cX10_wokenAt 11 = .ok (.new 162, 3) := by decide +kernel
theorem dX10_wokenAt_14 : decode cX10_wokenAt 14 = .ok (.dup, 1) := by decide +kernel
theorem dX10_wokenAt_15 : decode cX10_wokenAt 15 = .ok (.ldc_w 259, 3) := by decide +kernel
theorem dX10_wokenAt_18 : decode cX10_wokenAt 18 = .ok (.invokespecial 166, 3) := by decide +kernel
theorem dX10_wokenAt_21 : decode cX10_wokenAt 21 = .ok (.athrow, 1) := by decide +kernel
theorem dX10_wokenAt_22 : decode cX10_wokenAt 22 = .ok (.aload_n 0, 1) := by decide +kernel
theorem dX10_wokenAt_23 : decode cX10_wokenAt 23 = .ok (.getfield 46, 3) := by decide +kernel
theorem dX10_wokenAt_26 : decode cX10_wokenAt 26 = .ok (.iload_n 1, 1) := by decide +kernel
theorem dX10_wokenAt_27 : decode cX10_wokenAt 27 = .ok (.invokevirtual 266, 3) := by decide +kernel
theorem dX10_wokenAt_30 : decode cX10_wokenAt 30 = .ok (.ifCond .eq 14, 3) := by decide +kernel
theorem dX10_wokenAt_33 : decode cX10_wokenAt 33 = .ok (.new 272, 3) := by decide +kernel
theorem dX10_wokenAt_36 : decode cX10_wokenAt 36 = .ok (.dup, 1) := by decide +kernel
theorem dX10_wokenAt_37 : decode cX10_wokenAt 37 = .ok (.ldc_w 274, 3) := by decide +kernel
theorem dX10_wokenAt_40 : decode cX10_wokenAt 40 = .ok (.invokespecial 276, 3) := by decide +kernel
theorem dX10_wokenAt_43 : decode cX10_wokenAt 43 = .ok (.athrow, 1) := by decide +kernel
theorem dX10_wokenAt_44 : decode cX10_wokenAt 44 = .ok (.aload_n 0, 1) := by decide +kernel
theorem dX10_wokenAt_45 : decode cX10_wokenAt 45 = .ok (.getfield 46, 3) := by decide +kernel
theorem dX10_wokenAt_48 : decode cX10_wokenAt 48 = .ok (.getfield 277, 3) := by decide +kernel
theorem dX10_wokenAt_51 : decode cX10_wokenAt 51 = .ok (.iload_n 1, 1) := by decide +kernel
theorem dX10_wokenAt_52 : decode cX10_wokenAt 52 = .ok (.iaload, 1) := by decide +kernel
theorem dX10_wokenAt_53 : decode cX10_wokenAt 53 = .ok (.ireturn, 1) := by decide +kernel
def f_P_wokenAt (F Z : Nat) (s : St) (p1 : Int32) : Option ((Int32 ⊕ Nat) × St) :=
  (f_Alarms_has F s p1).bind fun x1 => (if x1.1 = 0 then
    (if sz x1.2 < Z then some (.inr 2, sz' x1.2 (sz x1.2 + 1)) else none)
  else
    ((f_Alarms_waits F x1.2 p1).bind fun x2 => (if x2.1 = 0 then
      ((ix 4000 p1).bind fun j3 => (some (.inl (gA x2.2 22 j3), x2.2)))
    else
      (if sz x2.2 < Z then some (.inr 3, sz' x2.2 (sz x2.2 + 1)) else none))))
set_option maxHeartbeats 1000000 in
theorem c_f_P_wokenAt {F Z : Nat} {s : St} {p1 : Int32} {r : Int32 ⊕ Nat} {s' : St} (hf : f_P_wokenAt F Z s p1 = some (r, s')) : CX true yX10_wokenAt (Cond.code yX10_wokenAt cX10_wokenAt 2 (some .int)) (6) (90) (Z - sz s) (12 * (Z - sz s)) (fun B => [.ref (B + 0), .int p1]) s (fun B => (ouI r)) s' (Z - sz s) (12 * (Z - sz s)) := by
  refine CX.ofX (fun B => [(0, .ref (B + 0)), (1, .int p1)]) (by decide +kernel) (fun _ => rfl) (fun _ => (by simp [lg_sl, rfB_cat, catI, catL, catR])) (fun Γ D B X Y hr => ?_)
  have X : Cx Γ RX10 cX10_wokenAt 2 D B (RM Γ B Z (6) (90)) := X
  unfold f_P_wokenAt at hf
  refine r_aload_n (x := some 0) (pc := 0) X dX10_wokenAt_0 0 rfl ?_
  refine r_get (j := 7) (pc := 1) X ce_0 rfl inT10 (by decide) w_287 rfl dX10_wokenAt_1 ?_
  refine r_iload_n (pc := 4) X dX10_wokenAt_4 1 rfl ?_
  refine bnd hf (fun x1 h1 hf => ?_)
  refine z_callVi (As := [.int p1]) (st := []) (pc := 5) X (c_f_Alarms_has h1) rfl w_778 w_779 w_780 w_40 w_781 hdV_X0_has (Rc.s rfl ce_18) (by decide) (Nat.le_of_ble_eq_true rfl) dX10_wokenAt_5 rfl ?_
  refine b_if_ne (tgt := 22) (pc := 8) X dX10_wokenAt_8 (by decide) hf (fun hf => ?_) (fun hf => ?_)
  · exact x_throwW (e := 2) (pc := 11) X Y (by decide +kernel) tnames_ok w_359 w_50 thr_2_166 (thg_2_166 _) str_259 rfl (by decide) (by decide) dX10_wokenAt_11 dX10_wokenAt_14 dX10_wokenAt_15 dX10_wokenAt_18 dX10_wokenAt_21 hf
  · refine r_aload_n (x := some 0) (pc := 22) X dX10_wokenAt_22 0 rfl ?_
    refine r_get (j := 7) (pc := 23) X ce_0 rfl inT10 (by decide) w_287 rfl dX10_wokenAt_23 ?_
    refine r_iload_n (pc := 26) X dX10_wokenAt_26 1 rfl ?_
    refine bnd hf (fun x2 h2 hf => ?_)
    refine z_callVi (As := [.int p1]) (st := []) (pc := 27) X (c_f_Alarms_waits h2) rfl w_783 w_784 w_785 w_40 w_786 hdV_X0_waits (Rc.s rfl ce_18) (by decide) (Nat.le_of_ble_eq_true rfl) dX10_wokenAt_27 rfl ?_
    refine b_if_eq (tgt := 44) (pc := 30) X dX10_wokenAt_30 (by decide) hf (fun hf => ?_) (fun hf => ?_)
    · refine r_aload_n (x := some 0) (pc := 44) X dX10_wokenAt_44 0 rfl ?_
      refine r_get (j := 7) (pc := 45) X ce_0 rfl inT10 (by decide) w_287 rfl dX10_wokenAt_45 ?_
      refine r_get (j := 3) (pc := 48) X ce_18 rfl inT0 (by decide) w_157 rfl dX10_wokenAt_48 ?_
      refine r_iload_n (pc := 51) X dX10_wokenAt_51 1 rfl ?_
      refine b_iald (pc := 52) X ce_22 dX10_wokenAt_52 hf (fun j3 hf => ?_)
      exact x_iret (pc := 53) X hr hf dX10_wokenAt_53
    · exact x_throwN (pc := 33) X Y w_846 w_55 thr_3_276 (thg_3_276 _) str_274 rfl (by decide) (by decide) dX10_wokenAt_33 dX10_wokenAt_36 dX10_wokenAt_37 dX10_wokenAt_40 dX10_wokenAt_43 hf
/-! f_P_answer -/
theorem dX10_answer_0 : decode cX10_answer 0 = .ok (.aload_n 0, 1) := by decide +kernel
theorem dX10_answer_1 : decode cX10_answer 1 = .ok (.getfield 46, 3) := by decide +kernel
theorem dX10_answer_4 : decode cX10_answer 4 = .ok (.iload_n 1, 1) := by decide +kernel
theorem dX10_answer_5 : decode cX10_answer 5 = .ok (.invokevirtual 256, 3) := by decide +kernel
theorem dX10_answer_8 : decode cX10_answer 8 = .ok (.ifCond .ne 14, 3) := by decide +kernel
theorem dX10_answer_11 : decode cX10_answer 11 = .ok (.new 162, 3) := by decide +kernel
theorem dX10_answer_14 : decode cX10_answer 14 = .ok (.dup, 1) := by decide +kernel
theorem dX10_answer_15 : decode cX10_answer 15 = .ok (.ldc_w 259, 3) := by decide +kernel
theorem dX10_answer_18 : decode cX10_answer 18 = .ok (.invokespecial 166, 3) := by decide +kernel
theorem dX10_answer_21 : decode cX10_answer 21 = .ok (.athrow, 1) := by decide +kernel
theorem dX10_answer_22 : decode cX10_answer 22 = .ok (.aload_n 0, 1) := by decide +kernel
theorem dX10_answer_23 : decode cX10_answer 23 = .ok (.getfield 46, 3) := by decide +kernel
theorem dX10_answer_26 : decode cX10_answer 26 = .ok (.iload_n 1, 1) := by decide +kernel
theorem dX10_answer_27 : decode cX10_answer 27 = .ok (.invokevirtual 266, 3) := by decide +kernel
theorem dX10_answer_30 : decode cX10_answer 30 = .ok (.ifCond .ne 15, 3) := by decide +kernel
theorem dX10_answer_33 : decode cX10_answer 33 = .ok (.aload_n 0, 1) := by decide +kernel
theorem dX10_answer_34 : decode cX10_answer 34 = .ok (.getfield 46, 3) := by decide +kernel
theorem dX10_answer_37 : decode cX10_answer 37 = .ok (.getfield 280, 3) := by decide +kernel
theorem dX10_answer_40 : decode cX10_answer 40 = .ok (.iload_n 1, 1) := by decide +kernel
theorem dX10_answer_41 : decode cX10_answer 41 = .ok (.baload, 1) := by decide +kernel
theorem dX10_answer_42 : decode cX10_answer 42 = .ok (.ifCond .eq 14, 3) := by decide +kernel
theorem dX10_answer_45 : decode cX10_answer 45 = .ok (.new 85, 3) := by decide +kernel
theorem dX10_answer_48 : decode cX10_answer 48 = .ok (.dup, 1) := by decide +kernel
theorem dX10_answer_49 : decode cX10_answer 49 = .ok (.ldc_w 284, 3) := by decide +kernel
theorem dX10_answer_52 : decode cX10_answer 52 = .ok (.invokespecial 89, 3) := by decide +kernel
theorem dX10_answer_55 : decode cX10_answer 55 = .ok (.athrow, 1) := by decide +kernel
theorem dX10_answer_56 : decode cX10_answer 56 = .ok (.aload_n 0, 1) := by decide +kernel
theorem dX10_answer_57 : decode cX10_answer 57 = .ok (.getfield 46, 3) := by decide +kernel
theorem dX10_answer_60 : decode cX10_answer 60 = .ok (.getfield 280, 3) := by decide +kernel
theorem dX10_answer_63 : decode cX10_answer 63 = .ok (.iload_n 1, 1) := by decide +kernel
theorem dX10_answer_64 : decode cX10_answer 64 = .ok (.iconst 1, 1) := by decide +kernel
theorem dX10_answer_65 : decode cX10_answer 65 = .ok (.bastore, 1) := by decide +kernel
theorem dX10_answer_66 : decode cX10_answer 66 = .ok (.iload_n 2, 1) := by decide +kernel
theorem dX10_answer_67 : decode cX10_answer 67 = .ok (.ifCond .eq 26, 3) := by decide +kernel
theorem dX10_answer_70 : decode cX10_answer 70 = .ok (.aload_n 0, 1) := by decide +kernel
theorem dX10_answer_71 : decode cX10_answer 71 = .ok (.getfield 46, 3) := by decide +kernel
theorem dX10_answer_74 : decode cX10_answer 74 = .ok (.getfield 277, 3) := by decide +kernel
theorem dX10_answer_77 : decode cX10_answer 77 = .ok (.iload_n 1, 1) := by decide +kernel
theorem dX10_answer_78 : decode cX10_answer 78 = .ok (.iaload, 1) := by decide +kernel
theorem dX10_answer_79 : decode cX10_answer 79 = .ok (.bipush 8, 2) := by decide +kernel
theorem dX10_answer_81 : decode cX10_answer 81 = .ok (.idiv, 1) := by decide +kernel
theorem dX10_answer_82 : decode cX10_answer 82 = .ok (.invokestatic 286, 3) := by decide +kernel
theorem dX10_answer_85 : decode cX10_answer 85 = .ok (.ifCond .eq 8, 3) := by decide +kernel
theorem dX10_answer_88 : decode cX10_answer 88 = .ok (.aload_n 0, 1) := by decide +kernel
theorem dX10_answer_89 : decode cX10_answer 89 = .ok (.iload_n 1, 1) := by decide +kernel
theorem dX10_answer_90 : decode cX10_answer 90 = .ok (.invokevirtual 289, 3) := by decide +kernel
theorem dX10_answer_93 : decode cX10_answer 93 = .ok (.aload_n 0, 1) := by decide +kernel
theorem dX10_answer_94 : decode cX10_answer 94 = .ok (.getfield 39, 3) := by decide +kernel
theorem dX10_answer_97 : decode cX10_answer 97 = .ok (.getfield 293, 3) := by decide +kernel
theorem dX10_answer_100 : decode cX10_answer 100 = .ok (.ireturn, 1) := by decide +kernel
def f_P_answer (F Z : Nat) (s : St) (p1 : Int32) (p2 : Int32) : Option ((Int32 ⊕ Nat) × St) :=
  (f_Alarms_has F s p1).bind fun x1 => (if x1.1 = 0 then
    (if sz x1.2 < Z then some (.inr 2, sz' x1.2 (sz x1.2 + 1)) else none)
  else
    ((f_Alarms_waits F x1.2 p1).bind fun x2 => (if x2.1 = 0 then
      ((ix 4000 p1).bind fun j3 => (if (gA x2.2 23 j3) = 0 then
        ((ix 4000 p1).bind fun j4 => (lt (sA x2.2 23 j4 1) fun s5 => (if p2 = 0 then
          (some (.inl (gI s5 774), s5))
        else
          ((ix 4000 p1).bind fun j6 => ((f_P_isNight F s5 ((gA s5 22 j6) / 8)).bind fun x7 => (if x7.1 = 0 then
            (some (.inl (gI x7.2 774), x7.2))
          else
            ((f_P_oweForAlarm F x7.2 p1).bind fun x8 => (some (.inl (gI x8 774), x8)))))))))
      else
        (if sz x2.2 < Z then some (.inr 1, sz' x2.2 (sz x2.2 + 1)) else none)))
    else
      (if sz x2.2 < Z then some (.inr 1, sz' x2.2 (sz x2.2 + 1)) else none))))
set_option maxHeartbeats 1000000 in
theorem c_f_P_answer {F Z : Nat} {s : St} {p1 : Int32} {p2 : Int32} {r : Int32 ⊕ Nat} {s' : St} (hf : f_P_answer F Z s p1 p2 = some (r, s')) : CX true yX10_answer (Cond.code yX10_answer cX10_answer 3 (some .int)) (6) (90) (Z - sz s) (12 * (Z - sz s)) (fun B => [.ref (B + 0), .int p1, .int p2]) s (fun B => (ouI r)) s' (Z - sz s) (12 * (Z - sz s)) := by
  refine CX.ofX (fun B => [(0, .ref (B + 0)), (1, .int p1), (2, .int p2)]) (by decide +kernel) (fun _ => rfl) (fun _ => (by simp [lg_sl, rfB_cat, catI, catL, catR])) (fun Γ D B X Y hr => ?_)
  have X : Cx Γ RX10 cX10_answer 3 D B (RM Γ B Z (6) (90)) := X
  unfold f_P_answer at hf
  refine r_aload_n (x := some 0) (pc := 0) X dX10_answer_0 0 rfl ?_
  refine r_get (j := 7) (pc := 1) X ce_0 rfl inT10 (by decide) w_287 rfl dX10_answer_1 ?_
  refine r_iload_n (pc := 4) X dX10_answer_4 1 rfl ?_
  refine bnd hf (fun x1 h1 hf => ?_)
  refine z_callVi (As := [.int p1]) (st := []) (pc := 5) X (c_f_Alarms_has h1) rfl w_778 w_779 w_780 w_40 w_781 hdV_X0_has (Rc.s rfl ce_18) (by decide) (Nat.le_of_ble_eq_true rfl) dX10_answer_5 rfl ?_
  refine b_if_ne (tgt := 22) (pc := 8) X dX10_answer_8 (by decide) hf (fun hf => ?_) (fun hf => ?_)
  · exact x_throwW (e := 2) (pc := 11) X Y (by decide +kernel) tnames_ok w_359 w_50 thr_2_166 (thg_2_166 _) str_259 rfl (by decide) (by decide) dX10_answer_11 dX10_answer_14 dX10_answer_15 dX10_answer_18 dX10_answer_21 hf
  · refine r_aload_n (x := some 0) (pc := 22) X dX10_answer_22 0 rfl ?_
    refine r_get (j := 7) (pc := 23) X ce_0 rfl inT10 (by decide) w_287 rfl dX10_answer_23 ?_
    refine r_iload_n (pc := 26) X dX10_answer_26 1 rfl ?_
    refine bnd hf (fun x2 h2 hf => ?_)
    refine z_callVi (As := [.int p1]) (st := []) (pc := 27) X (c_f_Alarms_waits h2) rfl w_783 w_784 w_785 w_40 w_786 hdV_X0_waits (Rc.s rfl ce_18) (by decide) (Nat.le_of_ble_eq_true rfl) dX10_answer_27 rfl ?_
    refine b_if_ne (tgt := 45) (pc := 30) X dX10_answer_30 (by decide) hf (fun hf => ?_) (fun hf => ?_)
    · refine r_aload_n (x := some 0) (pc := 33) X dX10_answer_33 0 rfl ?_
      refine r_get (j := 7) (pc := 34) X ce_0 rfl inT10 (by decide) w_287 rfl dX10_answer_34 ?_
      refine r_get (j := 4) (pc := 37) X ce_18 rfl inT0 (by decide) w_159 rfl dX10_answer_37 ?_
      refine r_iload_n (pc := 40) X dX10_answer_40 1 rfl ?_
      refine b_zald (pc := 41) X ce_23 dX10_answer_41 hf (fun j3 hf => ?_)
      refine b_if_eq (tgt := 56) (pc := 42) X dX10_answer_42 (by decide) hf (fun hf => ?_) (fun hf => ?_)
      · refine r_aload_n (x := some 0) (pc := 56) X dX10_answer_56 0 rfl ?_
        refine r_get (j := 7) (pc := 57) X ce_0 rfl inT10 (by decide) w_287 rfl dX10_answer_57 ?_
        refine r_get (j := 4) (pc := 60) X ce_18 rfl inT0 (by decide) w_159 rfl dX10_answer_60 ?_
        refine r_iload_n (pc := 63) X dX10_answer_63 1 rfl ?_
        refine r_iconst (v := 1) (pc := 64) X dX10_answer_64 (by decide) ?_
        refine z_zast (pc := 65) X ce_23 (fun _ => ca_23 _ _) dX10_answer_65 hf (by decide) (fun j4 s5 hf => ?_)
        refine r_iload_n (pc := 66) X dX10_answer_66 2 rfl ?_
        refine b_if_eq (tgt := 93) (pc := 67) X dX10_answer_67 (by decide) hf (fun hf => ?_) (fun hf => ?_)
        · refine r_aload_n (x := some 0) (pc := 93) X dX10_answer_93 0 rfl ?_
          refine r_get (j := 6) (pc := 94) X ce_0 rfl inT10 (by decide) w_286 rfl dX10_answer_94 ?_
          refine r_get (j := 6) (pc := 97) X ce_12 rfl inT5 (by decide) w_128 rfl dX10_answer_97 ?_
          exact x_iret (pc := 100) X hr hf dX10_answer_100
        · refine r_aload_n (x := some 0) (pc := 70) X dX10_answer_70 0 rfl ?_
          refine r_get (j := 7) (pc := 71) X ce_0 rfl inT10 (by decide) w_287 rfl dX10_answer_71 ?_
          refine r_get (j := 3) (pc := 74) X ce_18 rfl inT0 (by decide) w_157 rfl dX10_answer_74 ?_
          refine r_iload_n (pc := 77) X dX10_answer_77 1 rfl ?_
          refine b_iald (pc := 78) X ce_22 dX10_answer_78 hf (fun j6 hf => ?_)
          refine r_bipush (v := 8) (pc := 79) X dX10_answer_79 (by decide) ?_
          refine r_idiv (pc := 81) X dX10_answer_81 (by decide) ?_
          refine bnd hf (fun x7 h7 hf => ?_)
          refine z_callSi (As := [.int ((gA s5 22 j6) / 8)]) (st := []) (pc := 82) X (c_f_P_isNight h7) rfl w_788 w_345 w_36 w_346 hdS_X10_isNight (by decide) (Nat.le_of_ble_eq_true rfl) dX10_answer_82 rfl ?_
          refine b_if_eq (tgt := 93) (pc := 85) X dX10_answer_85 (by decide) hf (fun hf => ?_) (fun hf => ?_)
          · refine r_aload_n (x := some 0) (pc := 93) X dX10_answer_93 0 rfl ?_
            refine r_get (j := 6) (pc := 94) X ce_0 rfl inT10 (by decide) w_286 rfl dX10_answer_94 ?_
            refine r_get (j := 6) (pc := 97) X ce_12 rfl inT5 (by decide) w_128 rfl dX10_answer_97 ?_
            exact x_iret (pc := 100) X hr hf dX10_answer_100
          · refine r_aload_n (x := some 0) (pc := 88) X dX10_answer_88 0 rfl ?_
            refine r_iload_n (pc := 89) X dX10_answer_89 1 rfl ?_
            refine bnd hf (fun x8 h8 hf => ?_)
            refine z_callVv (As := [.int p1]) (st := []) (pc := 90) X (c_f_P_oweForAlarm h8) rfl w_789 w_791 w_21 w_36 w_792 hdV_X10_oweForAlarm (Rc.s rfl ce_0) (by decide) (Nat.le_of_ble_eq_true rfl) dX10_answer_90 rfl ?_
            refine r_aload_n (x := some 0) (pc := 93) X dX10_answer_93 0 rfl ?_
            refine r_get (j := 6) (pc := 94) X ce_0 rfl inT10 (by decide) w_286 rfl dX10_answer_94 ?_
            refine r_get (j := 6) (pc := 97) X ce_12 rfl inT5 (by decide) w_128 rfl dX10_answer_97 ?_
            exact x_iret (pc := 100) X hr hf dX10_answer_100
      · exact x_throwW (e := 1) (pc := 45) X Y (by decide +kernel) tnames_ok w_463 w_53 thr_1_89 (thg_1_89 _) str_284 rfl (by decide) (by decide) dX10_answer_45 dX10_answer_48 dX10_answer_49 dX10_answer_52 dX10_answer_55 hf
    · exact x_throwW (e := 1) (pc := 45) X Y (by decide +kernel) tnames_ok w_463 w_53 thr_1_89 (thg_1_89 _) str_284 rfl (by decide) (by decide) dX10_answer_45 dX10_answer_48 dX10_answer_49 dX10_answer_52 dX10_answer_55 hf
/-! f_P_wouldRise -/
theorem dX10_wouldRise_0 : decode cX10_wouldRise 0 = .ok (.aload_n 0, 1) := by decide +kernel
theorem dX10_wouldRise_1 : decode cX10_wouldRise 1 = .ok (.getfield 46, 3) := by decide +kernel
theorem dX10_wouldRise_4 : decode cX10_wouldRise 4 = .ok (.iload_n 1, 1) := by decide +kernel
theorem dX10_wouldRise_5 : decode cX10_wouldRise 5 = .ok (.invokevirtual 256, 3) := by decide +kernel
theorem dX10_wouldRise_8 : decode cX10_wouldRise 8 = .ok (.ifCond .ne 14, 3) := by decide +kernel
theorem dX10_wouldRise_11 : decode cX10_wouldRise 11 = .ok (.new 162, 3) := by decide +kernel
theorem dX10_wouldRise_14 : decode cX10_wouldRise 14 = .ok (.dup, 1) := by decide +kernel
theorem dX10_wouldRise_15 : decode cX10_wouldRise 15 = .ok (.ldc_w 259, 3) := by decide +kernel
theorem dX10_wouldRise_18 : decode cX10_wouldRise 18 = .ok (.invokespecial 166, 3) := by decide +kernel
theorem dX10_wouldRise_21 : decode cX10_wouldRise 21 = .ok (.athrow, 1) := by decide +kernel
theorem dX10_wouldRise_22 : decode cX10_wouldRise 22 = .ok (.aload_n 0, 1) := by decide +kernel
theorem dX10_wouldRise_23 : decode cX10_wouldRise 23 = .ok (.aload_n 0, 1) := by decide +kernel
theorem dX10_wouldRise_24 : decode cX10_wouldRise 24 = .ok (.getfield 46, 3) := by decide +kernel
theorem dX10_wouldRise_27 : decode cX10_wouldRise 27 = .ok (.getfield 261, 3) := by decide +kernel
theorem dX10_wouldRise_30 : decode cX10_wouldRise 30 = .ok (.iload_n 1, 1) := by decide +kernel
theorem dX10_wouldRise_31 : decode cX10_wouldRise 31 = .ok (.iaload, 1) := by decide +kernel
theorem dX10_wouldRise_32 : decode cX10_wouldRise 32 = .ok (.invokevirtual 213, 3) := by decide +kernel
theorem dX10_wouldRise_35 : decode cX10_wouldRise 35 = .ok (.astore_n 2, 1) := by decide +kernel
theorem dX10_wouldRise_36 : decode cX10_wouldRise 36 = .ok (.aload_n 2, 1) := by decide +kernel
theorem dX10_wouldRise_37 : decode cX10_wouldRise 37 = .ok (.ifnonnull 5, 3) := by decide +kernel
theorem dX10_wouldRise_40 : decode cX10_wouldRise 40 = .ok (.iconst 0, 1) := by decide +kernel
theorem dX10_wouldRise_41 : decode cX10_wouldRise 41 = .ok (.ireturn, 1) := by decide +kernel
theorem dX10_wouldRise_42 : decode cX10_wouldRise 42 = .ok (.aload_n 0, 1) := by decide +kernel
theorem dX10_wouldRise_43 : decode cX10_wouldRise 43 = .ok (.aload_n 2, 1) := by decide +kernel
theorem dX10_wouldRise_44 : decode cX10_wouldRise 44 = .ok (.aload_n 0, 1) := by decide +kernel
theorem dX10_wouldRise_45 : decode cX10_wouldRise 45 = .ok (.getfield 46, 3) := by decide +kernel
theorem dX10_wouldRise_48 : decode cX10_wouldRise 48 = .ok (.getfield 263, 3) := by decide +kernel
theorem dX10_wouldRise_51 : decode cX10_wouldRise 51 = .ok (.iload_n 1, 1) := by decide +kernel
theorem dX10_wouldRise_52 : decode cX10_wouldRise 52 = .ok (.iaload, 1) := by decide +kernel
theorem dX10_wouldRise_53 : decode cX10_wouldRise 53 = .ok (.aload_n 0, 1) := by decide +kernel
theorem dX10_wouldRise_54 : decode cX10_wouldRise 54 = .ok (.getfield 17, 3) := by decide +kernel
theorem dX10_wouldRise_57 : decode cX10_wouldRise 57 = .ok (.invokevirtual 239, 3) := by decide +kernel
theorem dX10_wouldRise_60 : decode cX10_wouldRise 60 = .ok (.aload_n 0, 1) := by decide +kernel
theorem dX10_wouldRise_61 : decode cX10_wouldRise 61 = .ok (.getfield 67, 3) := by decide +kernel
theorem dX10_wouldRise_64 : decode cX10_wouldRise 64 = .ok (.aload_n 2, 1) := by decide +kernel
theorem dX10_wouldRise_65 : decode cX10_wouldRise 65 = .ok (.getfield 296, 3) := by decide +kernel
theorem dX10_wouldRise_68 : decode cX10_wouldRise 68 = .ok (.aload_n 0, 1) := by decide +kernel
theorem dX10_wouldRise_69 : decode cX10_wouldRise 69 = .ok (.getfield 32, 3) := by decide +kernel
theorem dX10_wouldRise_72 : decode cX10_wouldRise 72 = .ok (.invokevirtual 110, 3) := by decide +kernel
theorem dX10_wouldRise_75 : decode cX10_wouldRise 75 = .ok (.lconst 0, 1) := by decide +kernel
theorem dX10_wouldRise_76 : decode cX10_wouldRise 76 = .ok (.lcmp, 1) := by decide +kernel
theorem dX10_wouldRise_77 : decode cX10_wouldRise 77 = .ok (.ifCond .eq 7, 3) := by decide +kernel
theorem dX10_wouldRise_80 : decode cX10_wouldRise 80 = .ok (.iconst 1, 1) := by decide +kernel
theorem dX10_wouldRise_81 : decode cX10_wouldRise 81 = .ok (.goto 4, 3) := by decide +kernel
theorem dX10_wouldRise_84 : decode cX10_wouldRise 84 = .ok (.iconst 0, 1) := by decide +kernel
theorem dX10_wouldRise_85 : decode cX10_wouldRise 85 = .ok (.ireturn, 1) := by decide +kernel
def f_P_wouldRise (F Z : Nat) (s : St) (p1 : Int32) : Option ((Int32 ⊕ Nat) × St) :=
  (f_Alarms_has F s p1).bind fun x1 => (if x1.1 = 0 then
    (if sz x1.2 < Z then some (.inr 2, sz' x1.2 (sz x1.2 + 1)) else none)
  else
    ((ix 4000 p1).bind fun j2 => ((f_P_ruleAt F x1.2 (gA x1.2 19 j2)).bind fun x3 => (if x3.1 = none then
      (some (.inl 0, x3.2))
    else
      ((ix 4000 p1).bind fun j4 => ((f_P_pickWindow F x3.2 x3.1 (gA x3.2 20 j4) (gI x3.2 2)).bind fun x5 => ((dgo x5 x3.1 6).bind fun o6 => ((f_Walker_run F x5 (o6.2.2.1 0)).bind fun x7 => (if x7.1 = 0 then
        (some (.inl 0, x7.2))
      else
        (some (.inl 1, x7.2)))))))))))
set_option maxHeartbeats 1000000 in
theorem c_f_P_wouldRise {F Z : Nat} {s : St} {p1 : Int32} {r : Int32 ⊕ Nat} {s' : St} (hf : f_P_wouldRise F Z s p1 = some (r, s')) : CX true yX10_wouldRise (Cond.code yX10_wouldRise cX10_wouldRise 3 (some .boolean)) (202) (4646) (Z - sz s) (12 * (Z - sz s)) (fun B => [.ref (B + 0), .int p1]) s (fun B => (ouI r)) s' (Z - sz s) (12 * (Z - sz s)) := by
  refine CX.ofX (fun B => [(0, .ref (B + 0)), (1, .int p1)]) (by decide +kernel) (fun _ => rfl) (fun _ => (by simp [lg_sl, rfB_cat, catI, catL, catR])) (fun Γ D B X Y hr => ?_)
  have X : Cx Γ RX10 cX10_wouldRise 3 D B (RM Γ B Z (202) (4646)) := X
  unfold f_P_wouldRise at hf
  refine r_aload_n (x := some 0) (pc := 0) X dX10_wouldRise_0 0 rfl ?_
  refine r_get (j := 7) (pc := 1) X ce_0 rfl inT10 (by decide) w_287 rfl dX10_wouldRise_1 ?_
  refine r_iload_n (pc := 4) X dX10_wouldRise_4 1 rfl ?_
  refine bnd hf (fun x1 h1 hf => ?_)
  refine z_callVi (As := [.int p1]) (st := []) (pc := 5) X (c_f_Alarms_has h1) rfl w_778 w_779 w_780 w_40 w_781 hdV_X0_has (Rc.s rfl ce_18) (by decide) (Nat.le_of_ble_eq_true rfl) dX10_wouldRise_5 rfl ?_
  refine b_if_ne (tgt := 22) (pc := 8) X dX10_wouldRise_8 (by decide) hf (fun hf => ?_) (fun hf => ?_)
  · exact x_throwW (e := 2) (pc := 11) X Y (by decide +kernel) tnames_ok w_359 w_50 thr_2_166 (thg_2_166 _) str_259 rfl (by decide) (by decide) dX10_wouldRise_11 dX10_wouldRise_14 dX10_wouldRise_15 dX10_wouldRise_18 dX10_wouldRise_21 hf
  · refine r_aload_n (x := some 0) (pc := 22) X dX10_wouldRise_22 0 rfl ?_
    refine r_aload_n (x := some 0) (pc := 23) X dX10_wouldRise_23 0 rfl ?_
    refine r_get (j := 7) (pc := 24) X ce_0 rfl inT10 (by decide) w_287 rfl dX10_wouldRise_24 ?_
    refine r_get (j := 0) (pc := 27) X ce_18 rfl inT0 (by decide) w_151 rfl dX10_wouldRise_27 ?_
    refine r_iload_n (pc := 30) X dX10_wouldRise_30 1 rfl ?_
    refine b_iald (pc := 31) X ce_19 dX10_wouldRise_31 hf (fun j2 hf => ?_)
    refine bnd hf (fun x3 h3 hf => ?_)
    refine z_callVq (As := [.int (gA x1.2 19 j2)]) (st := []) (pc := 32) X (c_f_P_ruleAt h3) rfl w_355 w_357 w_2 w_36 w_358 hdV_X10_ruleAt (Rc.s rfl ce_0) (by decide) (Nat.le_of_ble_eq_true rfl) dX10_wouldRise_32 rfl ?_
    refine r_astore_n (pc := 35) (lv' := [(0, .ref (B + 0)), (1, .int p1), (2, rfB B x3.1)]) X dX10_wouldRise_35 (by decide) [1, 2, 0] rfl ?_
    refine r_aload_n (pc := 36) X dX10_wouldRise_36 2 rfl ?_
    refine b_ifnonnull (tgt := 42) (pc := 37) X dX10_wouldRise_37 (by decide) hf (fun hf => ?_) (fun hf => ?_)
    · refine r_iconst (v := 0) (pc := 40) X dX10_wouldRise_40 (by decide) ?_
      exact x_zret (pc := 41) X hr (by decide) hf dX10_wouldRise_41
    · refine r_aload_n (x := some 0) (pc := 42) X dX10_wouldRise_42 0 rfl ?_
      refine r_aload_n (pc := 43) X dX10_wouldRise_43 2 rfl ?_
      refine r_aload_n (x := some 0) (pc := 44) X dX10_wouldRise_44 0 rfl ?_
      refine r_get (j := 7) (pc := 45) X ce_0 rfl inT10 (by decide) w_287 rfl dX10_wouldRise_45 ?_
      refine r_get (j := 1) (pc := 48) X ce_18 rfl inT0 (by decide) w_153 rfl dX10_wouldRise_48 ?_
      refine r_iload_n (pc := 51) X dX10_wouldRise_51 1 rfl ?_
      refine b_iald (pc := 52) X ce_20 dX10_wouldRise_52 hf (fun j4 hf => ?_)
      refine r_aload_n (x := some 0) (pc := 53) X dX10_wouldRise_53 0 rfl ?_
      refine r_get (j := 2) (pc := 54) X ce_0 rfl inT10 (by decide) w_282 rfl dX10_wouldRise_54 ?_
      refine bnd hf (fun x5 h5 hf => ?_)
      refine z_callVv (As := [rfB B x3.1, .int (gA x3.2 20 j4), .int (gI x3.2 2)]) (st := []) (pc := 57) X (c_f_P_pickWindow h5) rfl w_527 w_529 w_7 w_36 w_530 hdV_X10_pickWindow (Rc.s rfl ce_0) (by decide) (Nat.le_of_ble_eq_true rfl) dX10_wouldRise_57 rfl ?_
      refine r_aload_n (x := some 0) (pc := 60) X dX10_wouldRise_60 0 rfl ?_
      refine r_get (j := 10) (pc := 61) X ce_0 rfl inT10 (by decide) w_290 rfl dX10_wouldRise_61 ?_
      refine r_aload_n (pc := 64) X dX10_wouldRise_64 2 rfl ?_
      refine b_dgetR (j := 0) (pc := 65) X rfl inT6 (by decide) w_717 rfl dX10_wouldRise_65 hf (fun o6 hf => ?_)
      refine r_aload_n (x := some 0) (pc := 68) X dX10_wouldRise_68 0 rfl ?_
      refine r_get (j := 5) (pc := 69) X ce_0 rfl inT10 (by decide) w_285 rfl dX10_wouldRise_69 ?_
      refine bnd hf (fun x7 h7 hf => ?_)
      refine z_callVl (As := [rfB B (o6.2.2.1 0), .ref (B + 3)]) (st := []) (pc := 72) X (c_f_Walker_run h7) rfl w_544 w_545 w_546 w_43 w_547 hdV_X9_run (Rc.s rfl ce_30) (by decide) (Nat.le_of_ble_eq_true rfl) dX10_wouldRise_72 rfl ?_
      refine r_lconst (v := 0) (pc := 75) X dX10_wouldRise_75 (by decide) ?_
      refine b_lcmp_eq (tgt := 84) (pc := 76) X dX10_wouldRise_76 dX10_wouldRise_77 (by decide) hf (fun hf => ?_) (fun hf => ?_)
      · refine r_iconst (v := 0) (pc := 84) X dX10_wouldRise_84 (by decide) ?_
        exact x_zret (pc := 85) X hr (by decide) hf dX10_wouldRise_85
      · refine r_iconst (v := 1) (pc := 80) X dX10_wouldRise_80 (by decide) ?_
        refine r_goto (tgt := 85) (pc := 81) X dX10_wouldRise_81 (by decide) ?_
        exact x_zret (pc := 85) X hr (by decide) hf dX10_wouldRise_85
