/-! f_L_dice -/
theorem dL_dice_0 : decode cL_dice 0 = .ok (.iload_n 1, 1) := by decide +kernel
theorem dL_dice_1 : decode cL_dice 1 = .ok (.aload_n 0, 1) := by decide +kernel
theorem dL_dice_2 : decode cL_dice 2 = .ok (.arraylength, 1) := by decide +kernel
theorem dL_dice_3 : decode cL_dice 3 = .ok (.if_icmp .ge 9, 3) := by decide +kernel
theorem dL_dice_6 : decode cL_dice 6 = .ok (.aload_n 0, 1) := by decide +kernel
theorem dL_dice_7 : decode cL_dice 7 = .ok (.iload_n 1, 1) := by decide +kernel
theorem dL_dice_8 : decode cL_dice 8 = .ok (.iaload, 1) := by decide +kernel
theorem dL_dice_9 : decode cL_dice 9 = .ok (.goto 23, 3) := by decide +kernel
theorem dL_dice_12 : decode cL_dice 12 = .ok (.ldc 7, 2) := by decide +kernel
theorem dL_dice_14 : decode cL_dice 14 = .ok (.iload_n 1, 1) := by decide +kernel
theorem dL_dice_15 : decode cL_dice 15 = .ok (.sipush 313, 3) := by decide +kernel
theorem dL_dice_18 : decode cL_dice 18 = .ok (.iadd, 1) := by decide +kernel
theorem dL_dice_19 : decode cL_dice 19 = .ok (.imul, 1) := by decide +kernel
theorem dL_dice_20 : decode cL_dice 20 = .ok (.sipush 715, 3) := by decide +kernel
theorem dL_dice_23 : decode cL_dice 23 = .ok (.iload_n 1, 1) := by decide +kernel
theorem dL_dice_24 : decode cL_dice 24 = .ok (.imul, 1) := by decide +kernel
theorem dL_dice_25 : decode cL_dice 25 = .ok (.iload_n 1, 1) := by decide +kernel
theorem dL_dice_26 : decode cL_dice 26 = .ok (.imul, 1) := by decide +kernel
theorem dL_dice_27 : decode cL_dice 27 = .ok (.iadd, 1) := by decide +kernel
theorem dL_dice_28 : decode cL_dice 28 = .ok (.sipush 211, 3) := by decide +kernel
theorem dL_dice_31 : decode cL_dice 31 = .ok (.iadd, 1) := by decide +kernel
theorem dL_dice_32 : decode cL_dice 32 = .ok (.ldc 8, 2) := by decide +kernel
theorem dL_dice_34 : decode cL_dice 34 = .ok (.iand, 1) := by decide +kernel
theorem dL_dice_35 : decode cL_dice 35 = .ok (.ireturn, 1) := by decide +kernel
def f_L_dice (L : Nat) (xs : Nat → Int32) (F Z : Nat) (s : St) (p1 : Int32) : Option (Int32 × St) :=
  if (Int32.ofNat L) ≤ p1 then
    (some ((((((608135817 : Int32) * (p1 + 313)) + (((715 : Int32) * p1) * p1)) + 211) &&& 2147483647), s))
  else
    ((ix L p1).bind fun j1 => (some (((xs j1) &&& 2147483647), s)))
set_option maxHeartbeats 1000000 in
theorem c_f_L_dice {b L : Nat} {xs : Nat → Int32} {F Z : Nat} {s : St} {p1 : Int32} {r : Int32} {s' : St} (hf : f_L_dice L xs F Z s p1 = some (r, s')) (hz : ct s ≤ Z) : CXs b L xs true yL_dice (Cond.code yL_dice cL_dice 2 (some .int)) 0 0 (64 * (Z - ct s)) (768 * (Z - ct s)) (fun B => [.ref b, .int p1]) s (fun B => .inl (some (.int r))) s' (64 * (ct s' - ct s)) (768 * (ct s' - ct s)) := by
  refine CXs.ofL (fun B => [(0, .ref b), (1, .int p1)]) (by decide +kernel) (fun _ => rfl) (fun _ => (by simp [lg_sl, rfB_cat, catI, catL, catR])) (fun Γ D B X Y S hr => ?_)
  have X : Cx Γ RL cL_dice 2 D B (RMg Z (ct s) 0 0) := X
  have M : RLe (RMg Z (ct s) 0 0) Z 0 0 (ct s) 0 0 := RLe.rf
  have hc : Hc (ct s) Z s := ⟨Nat.le_refl _, hz⟩
  unfold f_L_dice at hf
  refine r_iload_n (pc := 0) X dL_dice_0 1 rfl ?_
  refine s_aload_n (pc := 1) X dL_dice_1 0 rfl ?_
  refine s_len (pc := 2) X S dL_dice_2 ?_
  refine b_icmp_ge (tgt := 12) (pc := 3) X dL_dice_3 (by decide) hf (fun hf => ?_) (fun hf => ?_)
  · refine r_ldc (v := 608135817) (pc := 12) X w_435 dL_dice_12 ?_
    refine r_iload_n (pc := 14) X dL_dice_14 1 rfl ?_
    refine r_sipush (v := 313) (pc := 15) X dL_dice_15 (by decide) ?_
    refine r_iadd (pc := 18) X dL_dice_18 ?_
    refine r_imul (pc := 19) X dL_dice_19 ?_
    refine r_sipush (v := 715) (pc := 20) X dL_dice_20 (by decide) ?_
    refine r_iload_n (pc := 23) X dL_dice_23 1 rfl ?_
    refine r_imul (pc := 24) X dL_dice_24 ?_
    refine r_iload_n (pc := 25) X dL_dice_25 1 rfl ?_
    refine r_imul (pc := 26) X dL_dice_26 ?_
    refine r_iadd (pc := 27) X dL_dice_27 ?_
    refine r_sipush (v := 211) (pc := 28) X dL_dice_28 (by decide) ?_
    refine r_iadd (pc := 31) X dL_dice_31 ?_
    refine r_ldc (v := 2147483647) (pc := 32) X w_436 dL_dice_32 ?_
    refine r_iand (pc := 34) X dL_dice_34 ?_
    exact y_iret (pc := 35) X hr hf dL_dice_35
  · refine s_aload_n (pc := 6) X dL_dice_6 0 rfl ?_
    refine r_iload_n (pc := 7) X dL_dice_7 1 rfl ?_
    refine s_iald (pc := 8) X S dL_dice_8 hf (fun j1 hf => ?_)
    refine r_goto (tgt := 32) (pc := 9) X dL_dice_9 (by decide) ?_
    refine r_ldc (v := 2147483647) (pc := 32) X w_436 dL_dice_32 ?_
    refine r_iand (pc := 34) X dL_dice_34 ?_
    exact y_iret (pc := 35) X hr hf dL_dice_35
/-! f_L_act -/
theorem dL_act_0 : decode cL_act 0 = .ok (.iload_n 1, 1) := by decide +kernel
theorem dL_act_1 : decode cL_act 1 = .ok (.ifCond .ne 12, 3) := by decide +kernel
theorem dL_act_4 : decode cL_act 4 = .ok (.aload_n 0, 1) := by decide +kernel
theorem dL_act_5 : decode cL_act 5 = .ok (.iload_n 2, 1) := by decide +kernel
theorem dL_act_6 : decode cL_act 6 = .ok (.i2c, 1) := by decide +kernel
theorem dL_act_7 : decode cL_act 7 = .ok (.invokevirtual 9, 3) := by decide +kernel
theorem dL_act_10 : decode cL_act 10 = .ok (.goto 130, 3) := by decide +kernel
theorem dL_act_13 : decode cL_act 13 = .ok (.iload_n 1, 1) := by decide +kernel
theorem dL_act_14 : decode cL_act 14 = .ok (.iconst 1, 1) := by decide +kernel
theorem dL_act_15 : decode cL_act 15 = .ok (.if_icmp .ne 11, 3) := by decide +kernel
theorem dL_act_18 : decode cL_act 18 = .ok (.aload_n 0, 1) := by decide +kernel
theorem dL_act_19 : decode cL_act 19 = .ok (.iload_n 2, 1) := by decide +kernel
theorem dL_act_20 : decode cL_act 20 = .ok (.invokevirtual 15, 3) := by decide +kernel
theorem dL_act_23 : decode cL_act 23 = .ok (.goto 117, 3) := by decide +kernel
theorem dL_act_26 : decode cL_act 26 = .ok (.iload_n 1, 1) := by decide +kernel
theorem dL_act_27 : decode cL_act 27 = .ok (.iconst 2, 1) := by decide +kernel
theorem dL_act_28 : decode cL_act 28 = .ok (.if_icmp .ne 16, 3) := by decide +kernel
theorem dL_act_31 : decode cL_act 31 = .ok (.aload_n 0, 1) := by decide +kernel
theorem dL_act_32 : decode cL_act 32 = .ok (.iload_n 2, 1) := by decide +kernel
theorem dL_act_33 : decode cL_act 33 = .ok (.iload_n 3, 1) := by decide +kernel
theorem dL_act_34 : decode cL_act 34 = .ok (.iload 4, 2) := by decide +kernel
theorem dL_act_36 : decode cL_act 36 = .ok (.iload 5, 2) := by decide +kernel
theorem dL_act_38 : decode cL_act 38 = .ok (.invokevirtual 19, 3) := by decide +kernel
theorem dL_act_41 : decode cL_act 41 = .ok (.goto 99, 3) := by decide +kernel
theorem dL_act_44 : decode cL_act 44 = .ok (.iload_n 1, 1) := by decide +kernel
theorem dL_act_45 : decode cL_act 45 = .ok (.iconst 3, 1) := by decide +kernel
theorem dL_act_46 : decode cL_act 46 = .ok (.if_icmp .ne 10, 3) := by decide +kernel
theorem dL_act_49 : decode cL_act 49 = .ok (.aload_n 0, 1) := by decide +kernel
theorem dL_act_50 : decode cL_act 50 = .ok (.invokevirtual 23, 3) := by decide +kernel
theorem dL_act_53 : decode cL_act 53 = .ok (.goto 87, 3) := by decide +kernel
theorem dL_act_56 : decode cL_act 56 = .ok (.iload_n 1, 1) := by decide +kernel
theorem dL_act_57 : decode cL_act 57 = .ok (.iconst 4, 1) := by decide +kernel
theorem dL_act_58 : decode cL_act 58 = .ok (.if_icmp .ne 20, 3) := by decide +kernel
theorem dL_act_61 : decode cL_act 61 = .ok (.aload_n 0, 1) := by decide +kernel
theorem dL_act_62 : decode cL_act 62 = .ok (.iload_n 2, 1) := by decide +kernel
theorem dL_act_63 : decode cL_act 63 = .ok (.iload_n 3, 1) := by decide +kernel
theorem dL_act_64 : decode cL_act 64 = .ok (.invokevirtual 27, 3) := by decide +kernel
theorem dL_act_67 : decode cL_act 67 = .ok (.ifCond .eq 7, 3) := by decide +kernel
theorem dL_act_70 : decode cL_act 70 = .ok (.iconst 1, 1) := by decide +kernel
theorem dL_act_71 : decode cL_act 71 = .ok (.goto 69, 3) := by decide +kernel
theorem dL_act_74 : decode cL_act 74 = .ok (.iconst 0, 1) := by decide +kernel
theorem dL_act_75 : decode cL_act 75 = .ok (.goto 65, 3) := by decide +kernel
theorem dL_act_78 : decode cL_act 78 = .ok (.iload_n 1, 1) := by decide +kernel
theorem dL_act_79 : decode cL_act 79 = .ok (.iconst 5, 1) := by decide +kernel
theorem dL_act_80 : decode cL_act 80 = .ok (.if_icmp .ne 14, 3) := by decide +kernel
theorem dL_act_83 : decode cL_act 83 = .ok (.aload_n 0, 1) := by decide +kernel
theorem dL_act_84 : decode cL_act 84 = .ok (.iload_n 2, 1) := by decide +kernel
theorem dL_act_85 : decode cL_act 85 = .ok (.iload_n 3, 1) := by decide +kernel
theorem dL_act_86 : decode cL_act 86 = .ok (.iload 4, 2) := by decide +kernel
theorem dL_act_88 : decode cL_act 88 = .ok (.invokevirtual 31, 3) := by decide +kernel
theorem dL_act_91 : decode cL_act 91 = .ok (.goto 49, 3) := by decide +kernel
theorem dL_act_94 : decode cL_act 94 = .ok (.iload_n 1, 1) := by decide +kernel
theorem dL_act_95 : decode cL_act 95 = .ok (.bipush 6, 2) := by decide +kernel
theorem dL_act_97 : decode cL_act 97 = .ok (.if_icmp .ne 11, 3) := by decide +kernel
theorem dL_act_100 : decode cL_act 100 = .ok (.aload_n 0, 1) := by decide +kernel
theorem dL_act_101 : decode cL_act 101 = .ok (.iload_n 2, 1) := by decide +kernel
theorem dL_act_102 : decode cL_act 102 = .ok (.invokevirtual 35, 3) := by decide +kernel
theorem dL_act_105 : decode cL_act 105 = .ok (.goto 35, 3) := by decide +kernel
theorem dL_act_108 : decode cL_act 108 = .ok (.iload_n 1, 1) := by decide +kernel
theorem dL_act_109 : decode cL_act 109 = .ok (.bipush 7, 2) := by decide +kernel
theorem dL_act_111 : decode cL_act 111 = .ok (.if_icmp .ne 14, 3) := by decide +kernel
theorem dL_act_114 : decode cL_act 114 = .ok (.aload_n 0, 1) := by decide +kernel
theorem dL_act_115 : decode cL_act 115 = .ok (.iload_n 2, 1) := by decide +kernel
theorem dL_act_116 : decode cL_act 116 = .ok (.iload_n 3, 1) := by decide +kernel
theorem dL_act_117 : decode cL_act 117 = .ok (.iload 4, 2) := by decide +kernel
theorem dL_act_119 : decode cL_act 119 = .ok (.invokevirtual 38, 3) := by decide +kernel
theorem dL_act_122 : decode cL_act 122 = .ok (.goto 18, 3) := by decide +kernel
theorem dL_act_125 : decode cL_act 125 = .ok (.aload_n 0, 1) := by decide +kernel
theorem dL_act_126 : decode cL_act 126 = .ok (.iload_n 2, 1) := by decide +kernel
theorem dL_act_127 : decode cL_act 127 = .ok (.iload_n 3, 1) := by decide +kernel
theorem dL_act_128 : decode cL_act 128 = .ok (.iconst 1, 1) := by decide +kernel
theorem dL_act_129 : decode cL_act 129 = .ok (.if_icmp .ne 7, 3) := by decide +kernel
theorem dL_act_132 : decode cL_act 132 = .ok (.iconst 1, 1) := by decide +kernel
theorem dL_act_133 : decode cL_act 133 = .ok (.goto 4, 3) := by decide +kernel
theorem dL_act_136 : decode cL_act 136 = .ok (.iconst 0, 1) := by decide +kernel
theorem dL_act_137 : decode cL_act 137 = .ok (.invokevirtual 41, 3) := by decide +kernel
theorem dL_act_140 : decode cL_act 140 = .ok (.ireturn, 1) := by decide +kernel
theorem dL_act_141 : decode cL_act 141 = .ok (.astore 6, 2) := by decide +kernel
theorem dL_act_143 : decode cL_act 143 = .ok (.sipush (-1241), 3) := by decide +kernel
theorem dL_act_146 : decode cL_act 146 = .ok (.ireturn, 1) := by decide +kernel
theorem dL_act_147 : decode cL_act 147 = .ok (.astore 6, 2) := by decide +kernel
theorem dL_act_149 : decode cL_act 149 = .ok (.sipush (-1242), 3) := by decide +kernel
theorem dL_act_152 : decode cL_act 152 = .ok (.ireturn, 1) := by decide +kernel
theorem dL_act_153 : decode cL_act 153 = .ok (.astore 6, 2) := by decide +kernel
theorem dL_act_155 : decode cL_act 155 = .ok (.sipush (-1243), 3) := by decide +kernel
theorem dL_act_158 : decode cL_act 158 = .ok (.ireturn, 1) := by decide +kernel
def f_L_act (F Z : Nat) (s : St) (p1 : Int32) (p2 : Int32) (p3 : Int32) (p4 : Int32) (p5 : Int32) : Option (Int32 × St) :=
  if p1 = 0 then
    ((qc Z s (fun z => f_P_type F z s ((p2.toUInt32 % 65536).toInt32))).bind fun x1 => (hnd x1.1 (fun e => if e = 2 then some ((-1241), x1.2) else (if e = 0 then some ((-1242), x1.2) else (if e = 1 then some ((-1243), x1.2) else none))) fun v2 => (some (v2, x1.2))))
  else
    (if p1 = 1 then
      ((qc Z s (fun z => f_P_pass F z s p2)).bind fun x3 => (hnd x3.1 (fun e => if e = 2 then some ((-1241), x3.2) else (if e = 0 then some ((-1242), x3.2) else (if e = 1 then some ((-1243), x3.2) else none))) fun v4 => (some (v4, x3.2))))
    else
      (if p1 = 2 then
        ((qc Z s (fun z => f_P_log F z s p2 p3 p4 p5)).bind fun x5 => (hnd x5.1 (fun e => if e = 2 then some ((-1241), x5.2) else (if e = 0 then some ((-1242), x5.2) else (if e = 1 then some ((-1243), x5.2) else none))) fun v6 => (some (v6, x5.2))))
      else
        (if p1 = 3 then
          ((qc Z s (fun z => f_P_addPerson F z s)).bind fun x7 => (hnd x7.1 (fun e => if e = 2 then some ((-1241), x7.2) else (if e = 0 then some ((-1242), x7.2) else (if e = 1 then some ((-1243), x7.2) else none))) fun v8 => (some (v8, x7.2))))
        else
          (if p1 = 4 then
            ((qc Z s (fun z => f_P_off F z s p2 p3)).bind fun x9 => (hnd x9.1 (fun e => if e = 2 then some ((-1241), x9.2) else (if e = 0 then some ((-1242), x9.2) else (if e = 1 then some ((-1243), x9.2) else none))) fun v10 => (if v10 = 0 then
              (some (0, x9.2))
            else
              (some (1, x9.2)))))
          else
            (if p1 = 5 then
              ((qd Z s (fun z => f_P_addRule F z s p2 p3 p4)).bind fun x11 => (hnd x11.1 (fun e => if e = 2 then some ((-1241), x11.2) else (if e = 0 then some ((-1242), x11.2) else (if e = 1 then some ((-1243), x11.2) else none))) fun v12 => (some (v12, x11.2))))
            else
              (if p1 = 6 then
                ((qc Z s (fun z => f_P_drop F z s p2)).bind fun x13 => (hnd x13.1 (fun e => if e = 2 then some ((-1241), x13.2) else (if e = 0 then some ((-1242), x13.2) else (if e = 1 then some ((-1243), x13.2) else none))) fun v14 => (some (v14, x13.2))))
              else
                (if p1 = 7 then
                  ((qc Z s (fun z => f_P_silence F z s p2 p3 p4)).bind fun x15 => (hnd x15.1 (fun e => if e = 2 then some ((-1241), x15.2) else (if e = 0 then some ((-1242), x15.2) else (if e = 1 then some ((-1243), x15.2) else none))) fun v16 => (some (v16, x15.2))))
                else
                  (if p3 = 1 then
                    ((qc Z s (fun z => f_P_answer F z s p2 1)).bind fun x17 => (hnd x17.1 (fun e => if e = 2 then some ((-1241), x17.2) else (if e = 0 then some ((-1242), x17.2) else (if e = 1 then some ((-1243), x17.2) else none))) fun v18 => (some (v18, x17.2))))
                  else
                    ((qc Z s (fun z => f_P_answer F z s p2 0)).bind fun x19 => (hnd x19.1 (fun e => if e = 2 then some ((-1241), x19.2) else (if e = 0 then some ((-1242), x19.2) else (if e = 1 then some ((-1243), x19.2) else none))) fun v20 => (some (v20, x19.2))))))))))))
set_option maxHeartbeats 1000000 in
theorem c_f_L_act {F Z : Nat} {s : St} {p1 : Int32} {p2 : Int32} {p3 : Int32} {p4 : Int32} {p5 : Int32} {r : Int32} {s' : St} (hf : f_L_act F Z s p1 p2 p3 p4 p5 = some (r, s')) (hz : ct s ≤ Z) : CX true yL_act (Cond.codeWith yL_act cL_act 7 (some .int) [(0, 140, 141, 45), (0, 140, 147, 47), (0, 140, 153, 49)]) 803 16474 (64 * (Z - ct s)) (768 * (Z - ct s)) (fun B => [.ref (B + 0), .int p1, .int p2, .int p3, .int p4, .int p5]) s (fun B => .inl (some (.int r))) s' (64 * (ct s' - ct s)) (768 * (ct s' - ct s)) := by
  refine CX.ofH (fun B => [(0, .ref (B + 0)), (1, .int p1), (2, .int p2), (3, .int p3), (4, .int p4), (5, .int p5)]) (by decide +kernel) (fun _ => rfl) (fun _ => (by simp [lg_sl, rfB_cat, catI, catL, catR])) (fun Γ D B X Y Yt hr => ?_)
  have X : Cx Γ RL cL_act 7 D B (RMg Z (ct s) 803 16474) := X
  have M : RLe (RMg Z (ct s) 803 16474) Z 0 0 (ct s) 803 16474 := RLe.rf
  have hc : Hc (ct s) Z s := ⟨Nat.le_refl _, hz⟩
  unfold f_L_act at hf
  refine r_iload_n (pc := 0) X dL_act_0 1 rfl ?_
  refine b_if_ne (tgt := 13) (pc := 1) X dL_act_1 (by decide) hf (fun hf => ?_) (fun hf => ?_)
  · refine r_aload_n (x := some 0) (pc := 4) X dL_act_4 0 rfl ?_
    refine r_iload_n (pc := 5) X dL_act_5 2 rfl ?_
    refine r_i2c (pc := 6) X dL_act_6 ?_
    refine bnd hf (fun x1 h1 hf => ?_)
    refine t_callZi (As := [.int ((p2.toUInt32 % 65536).toInt32)]) (st := []) (pc := 7) X M Y hc (qc_run (ou := ouI) hc.2 (fun z x h => c_f_P_type h) h1) rfl w_443 w_444 w_445 w_36 w_446 hdV_X10_type (Rc.s rfl ce_0) (by decide) (Nat.le_of_ble_eq_true rfl) dL_act_7 rfl hf (fun v2 hc hf => ?_) (fun e hc hf H1 locs1 ls ce q9 a2 a3 a4 a5 a6 a7 => by
        by_cases he : e = 2
        · subst he
          have hf := ifp hf rfl
          refine y_catch X Y Yt a5 a6 a7 [] [(0, 140, 147, 47), (0, 140, 153, 49)] rfl (fun z hz => nomatch hz) (by decide) (by decide) w_440 cst_2 ?_
          refine y_hand (kl := 6) (hp := 141) X a2 a3 a4 (by decide) dL_act_141 ?_
          refine r_sipush (v := -1241) (pc := 143) X dL_act_143 (by decide) ?_
          exact y_iret (pc := 146) X hr hf dL_act_146
        have hf := ifn hf he
        by_cases he : e = 0
        · subst he
          have hf := ifp hf rfl
          refine y_catch X Y Yt a5 a6 a7 [(0, 140, 141, 45)] [(0, 140, 153, 49)] rfl (List.forall_mem_cons.mpr ⟨⟨by decide, _, w_440, by decide +kernel⟩, (List.forall_mem_nil _)⟩) (by decide) (by decide) w_441 cst_0 ?_
          refine y_hand (kl := 6) (hp := 147) X a2 a3 a4 (by decide) dL_act_147 ?_
          refine r_sipush (v := -1242) (pc := 149) X dL_act_149 (by decide) ?_
          exact y_iret (pc := 152) X hr hf dL_act_152
        have hf := ifn hf he
        by_cases he : e = 1
        · subst he
          have hf := ifp hf rfl
          refine y_catch X Y Yt a5 a6 a7 [(0, 140, 141, 45), (0, 140, 147, 47)] [] rfl (List.forall_mem_cons.mpr ⟨⟨by decide, _, w_440, by decide +kernel⟩, (List.forall_mem_cons.mpr ⟨⟨by decide, _, w_441, by decide +kernel⟩, (List.forall_mem_nil _)⟩)⟩) (by decide) (by decide) w_442 cst_1 ?_
          refine y_hand (kl := 6) (hp := 153) X a2 a3 a4 (by decide) dL_act_153 ?_
          refine r_sipush (v := -1243) (pc := 155) X dL_act_155 (by decide) ?_
          exact y_iret (pc := 158) X hr hf dL_act_158
        have hf := ifn hf he
        cases hf)
    refine r_goto (tgt := 140) (pc := 10) X dL_act_10 (by decide) ?_
    exact y_iret (pc := 140) X hr hf dL_act_140
  · refine r_iload_n (pc := 13) X dL_act_13 1 rfl ?_
    refine r_iconst (v := 1) (pc := 14) X dL_act_14 (by decide) ?_
    refine b_icmp_ne (tgt := 26) (pc := 15) X dL_act_15 (by decide) hf (fun hf => ?_) (fun hf => ?_)
    · refine r_aload_n (x := some 0) (pc := 18) X dL_act_18 0 rfl ?_
      refine r_iload_n (pc := 19) X dL_act_19 2 rfl ?_
      refine bnd hf (fun x3 h3 hf => ?_)
      refine t_callZi (As := [.int p2]) (st := []) (pc := 20) X M Y hc (qc_run (ou := ouI) hc.2 (fun z x h => c_f_P_pass h) h3) rfl w_479 w_480 w_481 w_36 w_482 hdV_X10_pass (Rc.s rfl ce_0) (by decide) (Nat.le_of_ble_eq_true rfl) dL_act_20 rfl hf (fun v4 hc hf => ?_) (fun e hc hf H1 locs1 ls ce q9 a2 a3 a4 a5 a6 a7 => by
          by_cases he : e = 2
          · subst he
            have hf := ifp hf rfl
            refine y_catch X Y Yt a5 a6 a7 [] [(0, 140, 147, 47), (0, 140, 153, 49)] rfl (fun z hz => nomatch hz) (by decide) (by decide) w_440 cst_2 ?_
            refine y_hand (kl := 6) (hp := 141) X a2 a3 a4 (by decide) dL_act_141 ?_
            refine r_sipush (v := -1241) (pc := 143) X dL_act_143 (by decide) ?_
            exact y_iret (pc := 146) X hr hf dL_act_146
          have hf := ifn hf he
          by_cases he : e = 0
          · subst he
            have hf := ifp hf rfl
            refine y_catch X Y Yt a5 a6 a7 [(0, 140, 141, 45)] [(0, 140, 153, 49)] rfl (List.forall_mem_cons.mpr ⟨⟨by decide, _, w_440, by decide +kernel⟩, (List.forall_mem_nil _)⟩) (by decide) (by decide) w_441 cst_0 ?_
            refine y_hand (kl := 6) (hp := 147) X a2 a3 a4 (by decide) dL_act_147 ?_
            refine r_sipush (v := -1242) (pc := 149) X dL_act_149 (by decide) ?_
            exact y_iret (pc := 152) X hr hf dL_act_152
          have hf := ifn hf he
          by_cases he : e = 1
          · subst he
            have hf := ifp hf rfl
            refine y_catch X Y Yt a5 a6 a7 [(0, 140, 141, 45), (0, 140, 147, 47)] [] rfl (List.forall_mem_cons.mpr ⟨⟨by decide, _, w_440, by decide +kernel⟩, (List.forall_mem_cons.mpr ⟨⟨by decide, _, w_441, by decide +kernel⟩, (List.forall_mem_nil _)⟩)⟩) (by decide) (by decide) w_442 cst_1 ?_
            refine y_hand (kl := 6) (hp := 153) X a2 a3 a4 (by decide) dL_act_153 ?_
            refine r_sipush (v := -1243) (pc := 155) X dL_act_155 (by decide) ?_
            exact y_iret (pc := 158) X hr hf dL_act_158
          have hf := ifn hf he
          cases hf)
      refine r_goto (tgt := 140) (pc := 23) X dL_act_23 (by decide) ?_
      exact y_iret (pc := 140) X hr hf dL_act_140
    · refine r_iload_n (pc := 26) X dL_act_26 1 rfl ?_
      refine r_iconst (v := 2) (pc := 27) X dL_act_27 (by decide) ?_
      refine b_icmp_ne (tgt := 44) (pc := 28) X dL_act_28 (by decide) hf (fun hf => ?_) (fun hf => ?_)
      · refine r_aload_n (x := some 0) (pc := 31) X dL_act_31 0 rfl ?_
        refine r_iload_n (pc := 32) X dL_act_32 2 rfl ?_
        refine r_iload_n (pc := 33) X dL_act_33 3 rfl ?_
        refine r_iload (pc := 34) X dL_act_34 4 rfl ?_
        refine r_iload (pc := 36) X dL_act_36 5 rfl ?_
        refine bnd hf (fun x5 h5 hf => ?_)
        refine t_callZi (As := [.int p2, .int p3, .int p4, .int p5]) (st := []) (pc := 38) X M Y hc (qc_run (ou := ouI) hc.2 (fun z x h => c_f_P_log h) h5) rfl w_592 w_593 w_594 w_36 w_595 hdV_X10_log (Rc.s rfl ce_0) (by decide) (Nat.le_of_ble_eq_true rfl) dL_act_38 rfl hf (fun v6 hc hf => ?_) (fun e hc hf H1 locs1 ls ce q9 a2 a3 a4 a5 a6 a7 => by
            by_cases he : e = 2
            · subst he
              have hf := ifp hf rfl
              refine y_catch X Y Yt a5 a6 a7 [] [(0, 140, 147, 47), (0, 140, 153, 49)] rfl (fun z hz => nomatch hz) (by decide) (by decide) w_440 cst_2 ?_
              refine y_hand (kl := 6) (hp := 141) X a2 a3 a4 (by decide) dL_act_141 ?_
              refine r_sipush (v := -1241) (pc := 143) X dL_act_143 (by decide) ?_
              exact y_iret (pc := 146) X hr hf dL_act_146
            have hf := ifn hf he
            by_cases he : e = 0
            · subst he
              have hf := ifp hf rfl
              refine y_catch X Y Yt a5 a6 a7 [(0, 140, 141, 45)] [(0, 140, 153, 49)] rfl (List.forall_mem_cons.mpr ⟨⟨by decide, _, w_440, by decide +kernel⟩, (List.forall_mem_nil _)⟩) (by decide) (by decide) w_441 cst_0 ?_
              refine y_hand (kl := 6) (hp := 147) X a2 a3 a4 (by decide) dL_act_147 ?_
              refine r_sipush (v := -1242) (pc := 149) X dL_act_149 (by decide) ?_
              exact y_iret (pc := 152) X hr hf dL_act_152
            have hf := ifn hf he
            by_cases he : e = 1
            · subst he
              have hf := ifp hf rfl
              refine y_catch X Y Yt a5 a6 a7 [(0, 140, 141, 45), (0, 140, 147, 47)] [] rfl (List.forall_mem_cons.mpr ⟨⟨by decide, _, w_440, by decide +kernel⟩, (List.forall_mem_cons.mpr ⟨⟨by decide, _, w_441, by decide +kernel⟩, (List.forall_mem_nil _)⟩)⟩) (by decide) (by decide) w_442 cst_1 ?_
              refine y_hand (kl := 6) (hp := 153) X a2 a3 a4 (by decide) dL_act_153 ?_
              refine r_sipush (v := -1243) (pc := 155) X dL_act_155 (by decide) ?_
              exact y_iret (pc := 158) X hr hf dL_act_158
            have hf := ifn hf he
            cases hf)
        refine r_goto (tgt := 140) (pc := 41) X dL_act_41 (by decide) ?_
        exact y_iret (pc := 140) X hr hf dL_act_140
      · refine r_iload_n (pc := 44) X dL_act_44 1 rfl ?_
        refine r_iconst (v := 3) (pc := 45) X dL_act_45 (by decide) ?_
        refine b_icmp_ne (tgt := 56) (pc := 46) X dL_act_46 (by decide) hf (fun hf => ?_) (fun hf => ?_)
        · refine r_aload_n (x := some 0) (pc := 49) X dL_act_49 0 rfl ?_
          refine bnd hf (fun x7 h7 hf => ?_)
          refine t_callZi (As := []) (st := []) (pc := 50) X M Y hc (qc_run (ou := ouI) hc.2 (fun z x h => c_f_P_addPerson h) h7) rfl w_607 w_608 w_609 w_36 w_610 hdV_X10_addPerson (Rc.s rfl ce_0) (by decide) (Nat.le_of_ble_eq_true rfl) dL_act_50 rfl hf (fun v8 hc hf => ?_) (fun e hc hf H1 locs1 ls ce q9 a2 a3 a4 a5 a6 a7 => by
              by_cases he : e = 2
              · subst he
                have hf := ifp hf rfl
                refine y_catch X Y Yt a5 a6 a7 [] [(0, 140, 147, 47), (0, 140, 153, 49)] rfl (fun z hz => nomatch hz) (by decide) (by decide) w_440 cst_2 ?_
                refine y_hand (kl := 6) (hp := 141) X a2 a3 a4 (by decide) dL_act_141 ?_
                refine r_sipush (v := -1241) (pc := 143) X dL_act_143 (by decide) ?_
                exact y_iret (pc := 146) X hr hf dL_act_146
              have hf := ifn hf he
              by_cases he : e = 0
              · subst he
                have hf := ifp hf rfl
                refine y_catch X Y Yt a5 a6 a7 [(0, 140, 141, 45)] [(0, 140, 153, 49)] rfl (List.forall_mem_cons.mpr ⟨⟨by decide, _, w_440, by decide +kernel⟩, (List.forall_mem_nil _)⟩) (by decide) (by decide) w_441 cst_0 ?_
                refine y_hand (kl := 6) (hp := 147) X a2 a3 a4 (by decide) dL_act_147 ?_
                refine r_sipush (v := -1242) (pc := 149) X dL_act_149 (by decide) ?_
                exact y_iret (pc := 152) X hr hf dL_act_152
              have hf := ifn hf he
              by_cases he : e = 1
              · subst he
                have hf := ifp hf rfl
                refine y_catch X Y Yt a5 a6 a7 [(0, 140, 141, 45), (0, 140, 147, 47)] [] rfl (List.forall_mem_cons.mpr ⟨⟨by decide, _, w_440, by decide +kernel⟩, (List.forall_mem_cons.mpr ⟨⟨by decide, _, w_441, by decide +kernel⟩, (List.forall_mem_nil _)⟩)⟩) (by decide) (by decide) w_442 cst_1 ?_
                refine y_hand (kl := 6) (hp := 153) X a2 a3 a4 (by decide) dL_act_153 ?_
                refine r_sipush (v := -1243) (pc := 155) X dL_act_155 (by decide) ?_
                exact y_iret (pc := 158) X hr hf dL_act_158
              have hf := ifn hf he
              cases hf)
          refine r_goto (tgt := 140) (pc := 53) X dL_act_53 (by decide) ?_
          exact y_iret (pc := 140) X hr hf dL_act_140
        · refine r_iload_n (pc := 56) X dL_act_56 1 rfl ?_
          refine r_iconst (v := 4) (pc := 57) X dL_act_57 (by decide) ?_
          refine b_icmp_ne (tgt := 78) (pc := 58) X dL_act_58 (by decide) hf (fun hf => ?_) (fun hf => ?_)
          · refine r_aload_n (x := some 0) (pc := 61) X dL_act_61 0 rfl ?_
            refine r_iload_n (pc := 62) X dL_act_62 2 rfl ?_
            refine r_iload_n (pc := 63) X dL_act_63 3 rfl ?_
            refine bnd hf (fun x9 h9 hf => ?_)
            refine t_callZi (As := [.int p2, .int p3]) (st := []) (pc := 64) X M Y hc (qc_run (ou := ouI) hc.2 (fun z x h => c_f_P_off h) h9) rfl w_612 w_613 w_614 w_36 w_615 hdV_X10_off (Rc.s rfl ce_0) (by decide) (Nat.le_of_ble_eq_true rfl) dL_act_64 rfl hf (fun v10 hc hf => ?_) (fun e hc hf H1 locs1 ls ce q9 a2 a3 a4 a5 a6 a7 => by
                by_cases he : e = 2
                · subst he
                  have hf := ifp hf rfl
                  refine y_catch X Y Yt a5 a6 a7 [] [(0, 140, 147, 47), (0, 140, 153, 49)] rfl (fun z hz => nomatch hz) (by decide) (by decide) w_440 cst_2 ?_
                  refine y_hand (kl := 6) (hp := 141) X a2 a3 a4 (by decide) dL_act_141 ?_
                  refine r_sipush (v := -1241) (pc := 143) X dL_act_143 (by decide) ?_
                  exact y_iret (pc := 146) X hr hf dL_act_146
                have hf := ifn hf he
                by_cases he : e = 0
                · subst he
                  have hf := ifp hf rfl
                  refine y_catch X Y Yt a5 a6 a7 [(0, 140, 141, 45)] [(0, 140, 153, 49)] rfl (List.forall_mem_cons.mpr ⟨⟨by decide, _, w_440, by decide +kernel⟩, (List.forall_mem_nil _)⟩) (by decide) (by decide) w_441 cst_0 ?_
                  refine y_hand (kl := 6) (hp := 147) X a2 a3 a4 (by decide) dL_act_147 ?_
                  refine r_sipush (v := -1242) (pc := 149) X dL_act_149 (by decide) ?_
                  exact y_iret (pc := 152) X hr hf dL_act_152
                have hf := ifn hf he
                by_cases he : e = 1
                · subst he
                  have hf := ifp hf rfl
                  refine y_catch X Y Yt a5 a6 a7 [(0, 140, 141, 45), (0, 140, 147, 47)] [] rfl (List.forall_mem_cons.mpr ⟨⟨by decide, _, w_440, by decide +kernel⟩, (List.forall_mem_cons.mpr ⟨⟨by decide, _, w_441, by decide +kernel⟩, (List.forall_mem_nil _)⟩)⟩) (by decide) (by decide) w_442 cst_1 ?_
                  refine y_hand (kl := 6) (hp := 153) X a2 a3 a4 (by decide) dL_act_153 ?_
                  refine r_sipush (v := -1243) (pc := 155) X dL_act_155 (by decide) ?_
                  exact y_iret (pc := 158) X hr hf dL_act_158
                have hf := ifn hf he
                cases hf)
            refine b_if_eq (tgt := 74) (pc := 67) X dL_act_67 (by decide) hf (fun hf => ?_) (fun hf => ?_)
            · refine r_iconst (v := 0) (pc := 74) X dL_act_74 (by decide) ?_
              refine r_goto (tgt := 140) (pc := 75) X dL_act_75 (by decide) ?_
              exact y_iret (pc := 140) X hr hf dL_act_140
            · refine r_iconst (v := 1) (pc := 70) X dL_act_70 (by decide) ?_
              refine r_goto (tgt := 140) (pc := 71) X dL_act_71 (by decide) ?_
              exact y_iret (pc := 140) X hr hf dL_act_140
          · refine r_iload_n (pc := 78) X dL_act_78 1 rfl ?_
            refine r_iconst (v := 5) (pc := 79) X dL_act_79 (by decide) ?_
            refine b_icmp_ne (tgt := 94) (pc := 80) X dL_act_80 (by decide) hf (fun hf => ?_) (fun hf => ?_)
            · refine r_aload_n (x := some 0) (pc := 83) X dL_act_83 0 rfl ?_
              refine r_iload_n (pc := 84) X dL_act_84 2 rfl ?_
              refine r_iload_n (pc := 85) X dL_act_85 3 rfl ?_
              refine r_iload (pc := 86) X dL_act_86 4 rfl ?_
              refine bnd hf (fun x11 h11 hf => ?_)
              refine t_callZi (As := [.int p2, .int p3, .int p4]) (st := []) (pc := 88) X M Y hc (qd_run (ou := ouI) (fun z x h => c_f_P_addRule h) h11) rfl w_627 w_628 w_629 w_36 w_630 hdV_X10_addRule (Rc.s rfl ce_0) (by decide) (Nat.le_of_ble_eq_true rfl) dL_act_88 rfl hf (fun v12 hc hf => ?_) (fun e hc hf H1 locs1 ls ce q9 a2 a3 a4 a5 a6 a7 => by
                  by_cases he : e = 2
                  · subst he
                    have hf := ifp hf rfl
                    refine y_catch X Y Yt a5 a6 a7 [] [(0, 140, 147, 47), (0, 140, 153, 49)] rfl (fun z hz => nomatch hz) (by decide) (by decide) w_440 cst_2 ?_
                    refine y_hand (kl := 6) (hp := 141) X a2 a3 a4 (by decide) dL_act_141 ?_
                    refine r_sipush (v := -1241) (pc := 143) X dL_act_143 (by decide) ?_
                    exact y_iret (pc := 146) X hr hf dL_act_146
                  have hf := ifn hf he
                  by_cases he : e = 0
                  · subst he
                    have hf := ifp hf rfl
                    refine y_catch X Y Yt a5 a6 a7 [(0, 140, 141, 45)] [(0, 140, 153, 49)] rfl (List.forall_mem_cons.mpr ⟨⟨by decide, _, w_440, by decide +kernel⟩, (List.forall_mem_nil _)⟩) (by decide) (by decide) w_441 cst_0 ?_
                    refine y_hand (kl := 6) (hp := 147) X a2 a3 a4 (by decide) dL_act_147 ?_
                    refine r_sipush (v := -1242) (pc := 149) X dL_act_149 (by decide) ?_
                    exact y_iret (pc := 152) X hr hf dL_act_152
                  have hf := ifn hf he
                  by_cases he : e = 1
                  · subst he
                    have hf := ifp hf rfl
                    refine y_catch X Y Yt a5 a6 a7 [(0, 140, 141, 45), (0, 140, 147, 47)] [] rfl (List.forall_mem_cons.mpr ⟨⟨by decide, _, w_440, by decide +kernel⟩, (List.forall_mem_cons.mpr ⟨⟨by decide, _, w_441, by decide +kernel⟩, (List.forall_mem_nil _)⟩)⟩) (by decide) (by decide) w_442 cst_1 ?_
                    refine y_hand (kl := 6) (hp := 153) X a2 a3 a4 (by decide) dL_act_153 ?_
                    refine r_sipush (v := -1243) (pc := 155) X dL_act_155 (by decide) ?_
                    exact y_iret (pc := 158) X hr hf dL_act_158
                  have hf := ifn hf he
                  cases hf)
              refine r_goto (tgt := 140) (pc := 91) X dL_act_91 (by decide) ?_
              exact y_iret (pc := 140) X hr hf dL_act_140
            · refine r_iload_n (pc := 94) X dL_act_94 1 rfl ?_
              refine r_bipush (v := 6) (pc := 95) X dL_act_95 (by decide) ?_
              refine b_icmp_ne (tgt := 108) (pc := 97) X dL_act_97 (by decide) hf (fun hf => ?_) (fun hf => ?_)
              · refine r_aload_n (x := some 0) (pc := 100) X dL_act_100 0 rfl ?_
                refine r_iload_n (pc := 101) X dL_act_101 2 rfl ?_
                refine bnd hf (fun x13 h13 hf => ?_)
                refine t_callZi (As := [.int p2]) (st := []) (pc := 102) X M Y hc (qc_run (ou := ouI) hc.2 (fun z x h => c_f_P_drop h) h13) rfl w_758 w_759 w_760 w_36 w_761 hdV_X10_drop (Rc.s rfl ce_0) (by decide) (Nat.le_of_ble_eq_true rfl) dL_act_102 rfl hf (fun v14 hc hf => ?_) (fun e hc hf H1 locs1 ls ce q9 a2 a3 a4 a5 a6 a7 => by
                    by_cases he : e = 2
                    · subst he
                      have hf := ifp hf rfl
                      refine y_catch X Y Yt a5 a6 a7 [] [(0, 140, 147, 47), (0, 140, 153, 49)] rfl (fun z hz => nomatch hz) (by decide) (by decide) w_440 cst_2 ?_
                      refine y_hand (kl := 6) (hp := 141) X a2 a3 a4 (by decide) dL_act_141 ?_
                      refine r_sipush (v := -1241) (pc := 143) X dL_act_143 (by decide) ?_
                      exact y_iret (pc := 146) X hr hf dL_act_146
                    have hf := ifn hf he
                    by_cases he : e = 0
                    · subst he
                      have hf := ifp hf rfl
                      refine y_catch X Y Yt a5 a6 a7 [(0, 140, 141, 45)] [(0, 140, 153, 49)] rfl (List.forall_mem_cons.mpr ⟨⟨by decide, _, w_440, by decide +kernel⟩, (List.forall_mem_nil _)⟩) (by decide) (by decide) w_441 cst_0 ?_
                      refine y_hand (kl := 6) (hp := 147) X a2 a3 a4 (by decide) dL_act_147 ?_
                      refine r_sipush (v := -1242) (pc := 149) X dL_act_149 (by decide) ?_
                      exact y_iret (pc := 152) X hr hf dL_act_152
                    have hf := ifn hf he
                    by_cases he : e = 1
                    · subst he
                      have hf := ifp hf rfl
                      refine y_catch X Y Yt a5 a6 a7 [(0, 140, 141, 45), (0, 140, 147, 47)] [] rfl (List.forall_mem_cons.mpr ⟨⟨by decide, _, w_440, by decide +kernel⟩, (List.forall_mem_cons.mpr ⟨⟨by decide, _, w_441, by decide +kernel⟩, (List.forall_mem_nil _)⟩)⟩) (by decide) (by decide) w_442 cst_1 ?_
                      refine y_hand (kl := 6) (hp := 153) X a2 a3 a4 (by decide) dL_act_153 ?_
                      refine r_sipush (v := -1243) (pc := 155) X dL_act_155 (by decide) ?_
                      exact y_iret (pc := 158) X hr hf dL_act_158
                    have hf := ifn hf he
                    cases hf)
                refine r_goto (tgt := 140) (pc := 105) X dL_act_105 (by decide) ?_
                exact y_iret (pc := 140) X hr hf dL_act_140
              · refine r_iload_n (pc := 108) X dL_act_108 1 rfl ?_
                refine r_bipush (v := 7) (pc := 109) X dL_act_109 (by decide) ?_
                refine b_icmp_ne (tgt := 125) (pc := 111) X dL_act_111 (by decide) hf (fun hf => ?_) (fun hf => ?_)
                · refine r_aload_n (x := some 0) (pc := 114) X dL_act_114 0 rfl ?_
                  refine r_iload_n (pc := 115) X dL_act_115 2 rfl ?_
                  refine r_iload_n (pc := 116) X dL_act_116 3 rfl ?_
                  refine r_iload (pc := 117) X dL_act_117 4 rfl ?_
                  refine bnd hf (fun x15 h15 hf => ?_)
                  refine t_callZi (As := [.int p2, .int p3, .int p4]) (st := []) (pc := 119) X M Y hc (qc_run (ou := ouI) hc.2 (fun z x h => c_f_P_silence h) h15) rfl w_763 w_764 w_765 w_36 w_766 hdV_X10_silence (Rc.s rfl ce_0) (by decide) (Nat.le_of_ble_eq_true rfl) dL_act_119 rfl hf (fun v16 hc hf => ?_) (fun e hc hf H1 locs1 ls ce q9 a2 a3 a4 a5 a6 a7 => by
                      by_cases he : e = 2
                      · subst he
                        have hf := ifp hf rfl
                        refine y_catch X Y Yt a5 a6 a7 [] [(0, 140, 147, 47), (0, 140, 153, 49)] rfl (fun z hz => nomatch hz) (by decide) (by decide) w_440 cst_2 ?_
                        refine y_hand (kl := 6) (hp := 141) X a2 a3 a4 (by decide) dL_act_141 ?_
                        refine r_sipush (v := -1241) (pc := 143) X dL_act_143 (by decide) ?_
                        exact y_iret (pc := 146) X hr hf dL_act_146
                      have hf := ifn hf he
                      by_cases he : e = 0
                      · subst he
                        have hf := ifp hf rfl
                        refine y_catch X Y Yt a5 a6 a7 [(0, 140, 141, 45)] [(0, 140, 153, 49)] rfl (List.forall_mem_cons.mpr ⟨⟨by decide, _, w_440, by decide +kernel⟩, (List.forall_mem_nil _)⟩) (by decide) (by decide) w_441 cst_0 ?_
                        refine y_hand (kl := 6) (hp := 147) X a2 a3 a4 (by decide) dL_act_147 ?_
                        refine r_sipush (v := -1242) (pc := 149) X dL_act_149 (by decide) ?_
                        exact y_iret (pc := 152) X hr hf dL_act_152
                      have hf := ifn hf he
                      by_cases he : e = 1
                      · subst he
                        have hf := ifp hf rfl
                        refine y_catch X Y Yt a5 a6 a7 [(0, 140, 141, 45), (0, 140, 147, 47)] [] rfl (List.forall_mem_cons.mpr ⟨⟨by decide, _, w_440, by decide +kernel⟩, (List.forall_mem_cons.mpr ⟨⟨by decide, _, w_441, by decide +kernel⟩, (List.forall_mem_nil _)⟩)⟩) (by decide) (by decide) w_442 cst_1 ?_
                        refine y_hand (kl := 6) (hp := 153) X a2 a3 a4 (by decide) dL_act_153 ?_
                        refine r_sipush (v := -1243) (pc := 155) X dL_act_155 (by decide) ?_
                        exact y_iret (pc := 158) X hr hf dL_act_158
                      have hf := ifn hf he
                      cases hf)
                  refine r_goto (tgt := 140) (pc := 122) X dL_act_122 (by decide) ?_
                  exact y_iret (pc := 140) X hr hf dL_act_140
                · refine r_aload_n (x := some 0) (pc := 125) X dL_act_125 0 rfl ?_
                  refine r_iload_n (pc := 126) X dL_act_126 2 rfl ?_
                  refine r_iload_n (pc := 127) X dL_act_127 3 rfl ?_
                  refine r_iconst (v := 1) (pc := 128) X dL_act_128 (by decide) ?_
                  refine b_icmp_ne (tgt := 136) (pc := 129) X dL_act_129 (by decide) hf (fun hf => ?_) (fun hf => ?_)
                  · refine r_iconst (v := 1) (pc := 132) X dL_act_132 (by decide) ?_
                    refine r_goto (tgt := 137) (pc := 133) X dL_act_133 (by decide) ?_
                    refine bnd hf (fun x17 h17 hf => ?_)
                    refine t_callZi (As := [.int p2, .int 1]) (st := []) (pc := 137) X M Y hc (qc_run (ou := ouI) hc.2 (fun z x h => c_f_P_answer h) h17) rfl w_774 w_775 w_776 w_36 w_777 hdV_X10_answer (Rc.s rfl ce_0) (by decide) (Nat.le_of_ble_eq_true rfl) dL_act_137 rfl hf (fun v18 hc hf => ?_) (fun e hc hf H1 locs1 ls ce q9 a2 a3 a4 a5 a6 a7 => by
                        by_cases he : e = 2
                        · subst he
                          have hf := ifp hf rfl
                          refine y_catch X Y Yt a5 a6 a7 [] [(0, 140, 147, 47), (0, 140, 153, 49)] rfl (fun z hz => nomatch hz) (by decide) (by decide) w_440 cst_2 ?_
                          refine y_hand (kl := 6) (hp := 141) X a2 a3 a4 (by decide) dL_act_141 ?_
                          refine r_sipush (v := -1241) (pc := 143) X dL_act_143 (by decide) ?_
                          exact y_iret (pc := 146) X hr hf dL_act_146
                        have hf := ifn hf he
                        by_cases he : e = 0
                        · subst he
                          have hf := ifp hf rfl
                          refine y_catch X Y Yt a5 a6 a7 [(0, 140, 141, 45)] [(0, 140, 153, 49)] rfl (List.forall_mem_cons.mpr ⟨⟨by decide, _, w_440, by decide +kernel⟩, (List.forall_mem_nil _)⟩) (by decide) (by decide) w_441 cst_0 ?_
                          refine y_hand (kl := 6) (hp := 147) X a2 a3 a4 (by decide) dL_act_147 ?_
                          refine r_sipush (v := -1242) (pc := 149) X dL_act_149 (by decide) ?_
                          exact y_iret (pc := 152) X hr hf dL_act_152
                        have hf := ifn hf he
                        by_cases he : e = 1
                        · subst he
                          have hf := ifp hf rfl
                          refine y_catch X Y Yt a5 a6 a7 [(0, 140, 141, 45), (0, 140, 147, 47)] [] rfl (List.forall_mem_cons.mpr ⟨⟨by decide, _, w_440, by decide +kernel⟩, (List.forall_mem_cons.mpr ⟨⟨by decide, _, w_441, by decide +kernel⟩, (List.forall_mem_nil _)⟩)⟩) (by decide) (by decide) w_442 cst_1 ?_
                          refine y_hand (kl := 6) (hp := 153) X a2 a3 a4 (by decide) dL_act_153 ?_
                          refine r_sipush (v := -1243) (pc := 155) X dL_act_155 (by decide) ?_
                          exact y_iret (pc := 158) X hr hf dL_act_158
                        have hf := ifn hf he
                        cases hf)
                    exact y_iret (pc := 140) X hr hf dL_act_140
                  · refine r_iconst (v := 0) (pc := 136) X dL_act_136 (by decide) ?_
                    refine bnd hf (fun x19 h19 hf => ?_)
                    refine t_callZi (As := [.int p2, .int 0]) (st := []) (pc := 137) X M Y hc (qc_run (ou := ouI) hc.2 (fun z x h => c_f_P_answer h) h19) rfl w_774 w_775 w_776 w_36 w_777 hdV_X10_answer (Rc.s rfl ce_0) (by decide) (Nat.le_of_ble_eq_true rfl) dL_act_137 rfl hf (fun v20 hc hf => ?_) (fun e hc hf H1 locs1 ls ce q9 a2 a3 a4 a5 a6 a7 => by
                        by_cases he : e = 2
                        · subst he
                          have hf := ifp hf rfl
                          refine y_catch X Y Yt a5 a6 a7 [] [(0, 140, 147, 47), (0, 140, 153, 49)] rfl (fun z hz => nomatch hz) (by decide) (by decide) w_440 cst_2 ?_
                          refine y_hand (kl := 6) (hp := 141) X a2 a3 a4 (by decide) dL_act_141 ?_
                          refine r_sipush (v := -1241) (pc := 143) X dL_act_143 (by decide) ?_
                          exact y_iret (pc := 146) X hr hf dL_act_146
                        have hf := ifn hf he
                        by_cases he : e = 0
                        · subst he
                          have hf := ifp hf rfl
                          refine y_catch X Y Yt a5 a6 a7 [(0, 140, 141, 45)] [(0, 140, 153, 49)] rfl (List.forall_mem_cons.mpr ⟨⟨by decide, _, w_440, by decide +kernel⟩, (List.forall_mem_nil _)⟩) (by decide) (by decide) w_441 cst_0 ?_
                          refine y_hand (kl := 6) (hp := 147) X a2 a3 a4 (by decide) dL_act_147 ?_
                          refine r_sipush (v := -1242) (pc := 149) X dL_act_149 (by decide) ?_
                          exact y_iret (pc := 152) X hr hf dL_act_152
                        have hf := ifn hf he
                        by_cases he : e = 1
                        · subst he
                          have hf := ifp hf rfl
                          refine y_catch X Y Yt a5 a6 a7 [(0, 140, 141, 45), (0, 140, 147, 47)] [] rfl (List.forall_mem_cons.mpr ⟨⟨by decide, _, w_440, by decide +kernel⟩, (List.forall_mem_cons.mpr ⟨⟨by decide, _, w_441, by decide +kernel⟩, (List.forall_mem_nil _)⟩)⟩) (by decide) (by decide) w_442 cst_1 ?_
                          refine y_hand (kl := 6) (hp := 153) X a2 a3 a4 (by decide) dL_act_153 ?_
                          refine r_sipush (v := -1243) (pc := 155) X dL_act_155 (by decide) ?_
                          exact y_iret (pc := 158) X hr hf dL_act_158
                        have hf := ifn hf he
                        cases hf)
                    exact y_iret (pc := 140) X hr hf dL_act_140
/-! f_L_swapped -/
theorem dL_swapped_0 : decode cL_swapped 0 = .ok (.aload_n 0, 1) := by decide +kernel
theorem dL_swapped_1 : decode cL_swapped 1 = .ok (.iload_n 1, 1) := by decide +kernel
theorem dL_swapped_2 : decode cL_swapped 2 = .ok (.iload_n 2, 1) := by decide +kernel
theorem dL_swapped_3 : decode cL_swapped 3 = .ok (.invokevirtual 51, 3) := by decide +kernel
theorem dL_swapped_6 : decode cL_swapped 6 = .ok (.iconst 0, 1) := by decide +kernel
theorem dL_swapped_7 : decode cL_swapped 7 = .ok (.ireturn, 1) := by decide +kernel
theorem dL_swapped_8 : decode cL_swapped 8 = .ok (.astore_n 3, 1) := by decide +kernel
theorem dL_swapped_9 : decode cL_swapped 9 = .ok (.sipush (-1242), 3) := by decide +kernel
theorem dL_swapped_12 : decode cL_swapped 12 = .ok (.ireturn, 1) := by decide +kernel
theorem dL_swapped_13 : decode cL_swapped 13 = .ok (.astore_n 3, 1) := by decide +kernel
theorem dL_swapped_14 : decode cL_swapped 14 = .ok (.sipush (-1243), 3) := by decide +kernel
theorem dL_swapped_17 : decode cL_swapped 17 = .ok (.ireturn, 1) := by decide +kernel
def f_L_swapped (F Z : Nat) (s : St) (p1 : Int32) (p2 : Int32) : Option (Int32 × St) :=
  (qc Z s (fun z => f_P_swap F z s p1 p2)).bind fun x1 => (hnd x1.1 (fun e => if e = 0 then some ((-1242), x1.2) else (if e = 1 then some ((-1243), x1.2) else none)) fun _ => (some (0, x1.2)))
set_option maxHeartbeats 1000000 in
theorem c_f_L_swapped {F Z : Nat} {s : St} {p1 : Int32} {p2 : Int32} {r : Int32} {s' : St} (hf : f_L_swapped F Z s p1 p2 = some (r, s')) (hz : ct s ≤ Z) : CX true yL_swapped (Cond.codeWith yL_swapped cL_swapped 4 (some .int) [(0, 7, 8, 47), (0, 7, 13, 49)]) 7 114 (64 * (Z - ct s)) (768 * (Z - ct s)) (fun B => [.ref (B + 0), .int p1, .int p2]) s (fun B => .inl (some (.int r))) s' (64 * (ct s' - ct s)) (768 * (ct s' - ct s)) := by
  refine CX.ofH (fun B => [(0, .ref (B + 0)), (1, .int p1), (2, .int p2)]) (by decide +kernel) (fun _ => rfl) (fun _ => (by simp [lg_sl, rfB_cat, catI, catL, catR])) (fun Γ D B X Y Yt hr => ?_)
  have X : Cx Γ RL cL_swapped 4 D B (RMg Z (ct s) 7 114) := X
  have M : RLe (RMg Z (ct s) 7 114) Z 0 0 (ct s) 7 114 := RLe.rf
  have hc : Hc (ct s) Z s := ⟨Nat.le_refl _, hz⟩
  unfold f_L_swapped at hf
  refine r_aload_n (x := some 0) (pc := 0) X dL_swapped_0 0 rfl ?_
  refine r_iload_n (pc := 1) X dL_swapped_1 1 rfl ?_
  refine r_iload_n (pc := 2) X dL_swapped_2 2 rfl ?_
  refine bnd hf (fun x1 h1 hf => ?_)
  refine t_callZv (As := [.int p1, .int p2]) (st := []) (pc := 3) X M Y hc (qc_run (ou := ouV) hc.2 (fun z x h => c_f_P_swap h) h1) rfl w_995 w_996 w_997 w_36 w_998 hdV_X10_swap (Rc.s rfl ce_0) (by decide) (Nat.le_of_ble_eq_true rfl) dL_swapped_3 rfl hf (fun _ hc hf => ?_) (fun e hc hf H1 locs1 ls ce q9 a2 a3 a4 a5 a6 a7 => by
      by_cases he : e = 0
      · subst he
        have hf := ifp hf rfl
        refine y_catch X Y Yt a5 a6 a7 [] [(0, 7, 13, 49)] rfl (fun z hz => nomatch hz) (by decide) (by decide) w_441 cst_0 ?_
        refine y_hand_n (kl := 3) (hp := 8) X a2 a3 a4 (by decide) dL_swapped_8 ?_
        refine r_sipush (v := -1242) (pc := 9) X dL_swapped_9 (by decide) ?_
        exact y_iret (pc := 12) X hr hf dL_swapped_12
      have hf := ifn hf he
      by_cases he : e = 1
      · subst he
        have hf := ifp hf rfl
        refine y_catch X Y Yt a5 a6 a7 [(0, 7, 8, 47)] [] rfl (List.forall_mem_cons.mpr ⟨⟨by decide, _, w_441, by decide +kernel⟩, (List.forall_mem_nil _)⟩) (by decide) (by decide) w_442 cst_1 ?_
        refine y_hand_n (kl := 3) (hp := 13) X a2 a3 a4 (by decide) dL_swapped_13 ?_
        refine r_sipush (v := -1243) (pc := 14) X dL_swapped_14 (by decide) ?_
        exact y_iret (pc := 17) X hr hf dL_swapped_17
      have hf := ifn hf he
      cases hf)
  refine r_iconst (v := 0) (pc := 6) X dL_swapped_6 (by decide) ?_
  exact y_iret (pc := 7) X hr hf dL_swapped_7
/-! f_L_told -/
theorem dL_told_0 : decode cL_told 0 = .ok (.iload_n 1, 1) := by decide +kernel
theorem dL_told_1 : decode cL_told 1 = .ok (.ifCond .eq 12, 3) := by decide +kernel
theorem dL_told_4 : decode cL_told 4 = .ok (.aload_n 0, 1) := by decide +kernel
theorem dL_told_5 : decode cL_told 5 = .ok (.iload_n 2, 1) := by decide +kernel
theorem dL_told_6 : decode cL_told 6 = .ok (.iload_n 3, 1) := by decide +kernel
theorem dL_told_7 : decode cL_told 7 = .ok (.invokevirtual 55, 3) := by decide +kernel
theorem dL_told_10 : decode cL_told 10 = .ok (.goto 9, 3) := by decide +kernel
theorem dL_told_13 : decode cL_told 13 = .ok (.aload_n 0, 1) := by decide +kernel
theorem dL_told_14 : decode cL_told 14 = .ok (.iload_n 2, 1) := by decide +kernel
theorem dL_told_15 : decode cL_told 15 = .ok (.iload_n 3, 1) := by decide +kernel
theorem dL_told_16 : decode cL_told 16 = .ok (.invokevirtual 59, 3) := by decide +kernel
theorem dL_told_19 : decode cL_told 19 = .ok (.lreturn, 1) := by decide +kernel
theorem dL_told_20 : decode cL_told 20 = .ok (.astore 4, 2) := by decide +kernel
theorem dL_told_22 : decode cL_told 22 = .ok (.ldc2_w 62, 3) := by decide +kernel
theorem dL_told_25 : decode cL_told 25 = .ok (.lreturn, 1) := by decide +kernel
theorem dL_told_26 : decode cL_told 26 = .ok (.astore 4, 2) := by decide +kernel
theorem dL_told_28 : decode cL_told 28 = .ok (.ldc2_w 64, 3) := by decide +kernel
theorem dL_told_31 : decode cL_told 31 = .ok (.lreturn, 1) := by decide +kernel
def f_L_told (F Z : Nat) (s : St) (p1 : Int32) (p2 : Int32) (p3 : Int32) : Option (Int64 × St) :=
  if p1 = 0 then
    ((qd Z s (fun z => f_P_ask F z s p2 p3)).bind fun x1 => (hnd x1.1 (fun e => if e = 0 then some ((-124200000000), x1.2) else (if e = 1 then some ((-124300000000), x1.2) else none)) fun v2 => (some (v2, x1.2))))
  else
    ((qd Z s (fun z => f_P_askByCodes F z s p2 p3)).bind fun x3 => (hnd x3.1 (fun e => if e = 0 then some ((-124200000000), x3.2) else (if e = 1 then some ((-124300000000), x3.2) else none)) fun v4 => (some (v4, x3.2))))
set_option maxHeartbeats 1000000 in
theorem c_f_L_told {F Z : Nat} {s : St} {p1 : Int32} {p2 : Int32} {p3 : Int32} {r : Int64} {s' : St} (hf : f_L_told F Z s p1 p2 p3 = some (r, s')) (hz : ct s ≤ Z) : CX true yL_told (Cond.codeWith yL_told cL_told 5 (some .long) [(0, 19, 20, 47), (0, 19, 26, 49)]) 803 16473 (64 * (Z - ct s)) (768 * (Z - ct s)) (fun B => [.ref (B + 0), .int p1, .int p2, .int p3]) s (fun B => .inl (some (.long r))) s' (64 * (ct s' - ct s)) (768 * (ct s' - ct s)) := by
  refine CX.ofH (fun B => [(0, .ref (B + 0)), (1, .int p1), (2, .int p2), (3, .int p3)]) (by decide +kernel) (fun _ => rfl) (fun _ => (by simp [lg_sl, rfB_cat, catI, catL, catR])) (fun Γ D B X Y Yt hr => ?_)
  have X : Cx Γ RL cL_told 5 D B (RMg Z (ct s) 803 16473) := X
  have M : RLe (RMg Z (ct s) 803 16473) Z 0 0 (ct s) 803 16473 := RLe.rf
  have hc : Hc (ct s) Z s := ⟨Nat.le_refl _, hz⟩
  unfold f_L_told at hf
  refine r_iload_n (pc := 0) X dL_told_0 1 rfl ?_
  refine b_if_eq (tgt := 13) (pc := 1) X dL_told_1 (by decide) hf (fun hf => ?_) (fun hf => ?_)
  · refine r_aload_n (x := some 0) (pc := 13) X dL_told_13 0 rfl ?_
    refine r_iload_n (pc := 14) X dL_told_14 2 rfl ?_
    refine r_iload_n (pc := 15) X dL_told_15 3 rfl ?_
    refine bnd hf (fun x1 h1 hf => ?_)
    refine t_callZl (As := [.int p2, .int p3]) (st := []) (pc := 16) X M Y hc (qd_run (ou := ouL) (fun z x h => c_f_P_ask h) h1) rfl w_970 w_971 w_972 w_36 w_973 hdV_X10_ask (Rc.s rfl ce_0) (by decide) (Nat.le_of_ble_eq_true rfl) dL_told_16 rfl hf (fun v2 hc hf => ?_) (fun e hc hf H1 locs1 ls ce q9 a2 a3 a4 a5 a6 a7 => by
        by_cases he : e = 0
        · subst he
          have hf := ifp hf rfl
          refine y_catch X Y Yt a5 a6 a7 [] [(0, 19, 26, 49)] rfl (fun z hz => nomatch hz) (by decide) (by decide) w_441 cst_0 ?_
          refine y_hand (kl := 4) (hp := 20) X a2 a3 a4 (by decide) dL_told_20 ?_
          refine r_ldc2 (v := -124200000000) (pc := 22) X w_974 dL_told_22 ?_
          exact y_lret (pc := 25) X hr hf dL_told_25
        have hf := ifn hf he
        by_cases he : e = 1
        · subst he
          have hf := ifp hf rfl
          refine y_catch X Y Yt a5 a6 a7 [(0, 19, 20, 47)] [] rfl (List.forall_mem_cons.mpr ⟨⟨by decide, _, w_441, by decide +kernel⟩, (List.forall_mem_nil _)⟩) (by decide) (by decide) w_442 cst_1 ?_
          refine y_hand (kl := 4) (hp := 26) X a2 a3 a4 (by decide) dL_told_26 ?_
          refine r_ldc2 (v := -124300000000) (pc := 28) X w_975 dL_told_28 ?_
          exact y_lret (pc := 31) X hr hf dL_told_31
        have hf := ifn hf he
        cases hf)
    exact y_lret (pc := 19) X hr hf dL_told_19
  · refine r_aload_n (x := some 0) (pc := 4) X dL_told_4 0 rfl ?_
    refine r_iload_n (pc := 5) X dL_told_5 2 rfl ?_
    refine r_iload_n (pc := 6) X dL_told_6 3 rfl ?_
    refine bnd hf (fun x3 h3 hf => ?_)
    refine t_callZl (As := [.int p2, .int p3]) (st := []) (pc := 7) X M Y hc (qd_run (ou := ouL) (fun z x h => c_f_P_askByCodes h) h3) rfl w_890 w_891 w_892 w_36 w_893 hdV_X10_askByCodes (Rc.s rfl ce_0) (by decide) (Nat.le_of_ble_eq_true rfl) dL_told_7 rfl hf (fun v4 hc hf => ?_) (fun e hc hf H1 locs1 ls ce q9 a2 a3 a4 a5 a6 a7 => by
        by_cases he : e = 0
        · subst he
          have hf := ifp hf rfl
          refine y_catch X Y Yt a5 a6 a7 [] [(0, 19, 26, 49)] rfl (fun z hz => nomatch hz) (by decide) (by decide) w_441 cst_0 ?_
          refine y_hand (kl := 4) (hp := 20) X a2 a3 a4 (by decide) dL_told_20 ?_
          refine r_ldc2 (v := -124200000000) (pc := 22) X w_974 dL_told_22 ?_
          exact y_lret (pc := 25) X hr hf dL_told_25
        have hf := ifn hf he
        by_cases he : e = 1
        · subst he
          have hf := ifp hf rfl
          refine y_catch X Y Yt a5 a6 a7 [(0, 19, 20, 47)] [] rfl (List.forall_mem_cons.mpr ⟨⟨by decide, _, w_441, by decide +kernel⟩, (List.forall_mem_nil _)⟩) (by decide) (by decide) w_442 cst_1 ?_
          refine y_hand (kl := 4) (hp := 26) X a2 a3 a4 (by decide) dL_told_26 ?_
          refine r_ldc2 (v := -124300000000) (pc := 28) X w_975 dL_told_28 ?_
          exact y_lret (pc := 31) X hr hf dL_told_31
        have hf := ifn hf he
        cases hf)
    refine r_goto (tgt := 19) (pc := 10) X dL_told_10 (by decide) ?_
    exact y_lret (pc := 19) X hr hf dL_told_19
/-! f_L_of -/
theorem dL_of_0 : decode cL_of 0 = .ok (.iload_n 1, 1) := by decide +kernel
theorem dL_of_1 : decode cL_of 1 = .ok (.ifCond .ne 11, 3) := by decide +kernel
theorem dL_of_4 : decode cL_of 4 = .ok (.aload_n 0, 1) := by decide +kernel
theorem dL_of_5 : decode cL_of 5 = .ok (.iload_n 2, 1) := by decide +kernel
theorem dL_of_6 : decode cL_of 6 = .ok (.invokevirtual 66, 3) := by decide +kernel
theorem dL_of_9 : decode cL_of 9 = .ok (.goto 138, 3) := by decide +kernel
theorem dL_of_12 : decode cL_of 12 = .ok (.iload_n 1, 1) := by decide +kernel
theorem dL_of_13 : decode cL_of 13 = .ok (.iconst 1, 1) := by decide +kernel
theorem dL_of_14 : decode cL_of 14 = .ok (.if_icmp .ne 11, 3) := by decide +kernel
theorem dL_of_17 : decode cL_of 17 = .ok (.aload_n 0, 1) := by decide +kernel
theorem dL_of_18 : decode cL_of 18 = .ok (.iload_n 2, 1) := by decide +kernel
theorem dL_of_19 : decode cL_of 19 = .ok (.invokevirtual 69, 3) := by decide +kernel
theorem dL_of_22 : decode cL_of 22 = .ok (.goto 125, 3) := by decide +kernel
theorem dL_of_25 : decode cL_of 25 = .ok (.iload_n 1, 1) := by decide +kernel
theorem dL_of_26 : decode cL_of 26 = .ok (.iconst 2, 1) := by decide +kernel
theorem dL_of_27 : decode cL_of 27 = .ok (.if_icmp .ne 11, 3) := by decide +kernel
theorem dL_of_30 : decode cL_of 30 = .ok (.aload_n 0, 1) := by decide +kernel
theorem dL_of_31 : decode cL_of 31 = .ok (.iload_n 2, 1) := by decide +kernel
theorem dL_of_32 : decode cL_of 32 = .ok (.invokevirtual 72, 3) := by decide +kernel
theorem dL_of_35 : decode cL_of 35 = .ok (.goto 112, 3) := by decide +kernel
theorem dL_of_38 : decode cL_of 38 = .ok (.iload_n 1, 1) := by decide +kernel
theorem dL_of_39 : decode cL_of 39 = .ok (.iconst 3, 1) := by decide +kernel
theorem dL_of_40 : decode cL_of 40 = .ok (.if_icmp .ne 12, 3) := by decide +kernel
theorem dL_of_43 : decode cL_of 43 = .ok (.aload_n 0, 1) := by decide +kernel
theorem dL_of_44 : decode cL_of 44 = .ok (.iload_n 2, 1) := by decide +kernel
theorem dL_of_45 : decode cL_of 45 = .ok (.iload_n 3, 1) := by decide +kernel
theorem dL_of_46 : decode cL_of 46 = .ok (.invokevirtual 75, 3) := by decide +kernel
theorem dL_of_49 : decode cL_of 49 = .ok (.goto 98, 3) := by decide +kernel
theorem dL_of_52 : decode cL_of 52 = .ok (.iload_n 1, 1) := by decide +kernel
theorem dL_of_53 : decode cL_of 53 = .ok (.iconst 4, 1) := by decide +kernel
theorem dL_of_54 : decode cL_of 54 = .ok (.if_icmp .ne 11, 3) := by decide +kernel
theorem dL_of_57 : decode cL_of 57 = .ok (.aload_n 0, 1) := by decide +kernel
theorem dL_of_58 : decode cL_of 58 = .ok (.iload_n 2, 1) := by decide +kernel
theorem dL_of_59 : decode cL_of 59 = .ok (.invokevirtual 79, 3) := by decide +kernel
theorem dL_of_62 : decode cL_of 62 = .ok (.goto 85, 3) := by decide +kernel
theorem dL_of_65 : decode cL_of 65 = .ok (.iload_n 1, 1) := by decide +kernel
theorem dL_of_66 : decode cL_of 66 = .ok (.iconst 5, 1) := by decide +kernel
theorem dL_of_67 : decode cL_of 67 = .ok (.if_icmp .ne 11, 3) := by decide +kernel
theorem dL_of_70 : decode cL_of 70 = .ok (.aload_n 0, 1) := by decide +kernel
theorem dL_of_71 : decode cL_of 71 = .ok (.iload_n 2, 1) := by decide +kernel
theorem dL_of_72 : decode cL_of 72 = .ok (.invokevirtual 82, 3) := by decide +kernel
theorem dL_of_75 : decode cL_of 75 = .ok (.goto 72, 3) := by decide +kernel
theorem dL_of_78 : decode cL_of 78 = .ok (.iload_n 1, 1) := by decide +kernel
theorem dL_of_79 : decode cL_of 79 = .ok (.bipush 6, 2) := by decide +kernel
theorem dL_of_81 : decode cL_of 81 = .ok (.if_icmp .ne 11, 3) := by decide +kernel
theorem dL_of_84 : decode cL_of 84 = .ok (.aload_n 0, 1) := by decide +kernel
theorem dL_of_85 : decode cL_of 85 = .ok (.iload_n 2, 1) := by decide +kernel
theorem dL_of_86 : decode cL_of 86 = .ok (.invokevirtual 85, 3) := by decide +kernel
theorem dL_of_89 : decode cL_of 89 = .ok (.goto 58, 3) := by decide +kernel
theorem dL_of_92 : decode cL_of 92 = .ok (.iload_n 1, 1) := by decide +kernel
theorem dL_of_93 : decode cL_of 93 = .ok (.bipush 7, 2) := by decide +kernel
theorem dL_of_95 : decode cL_of 95 = .ok (.if_icmp .ne 11, 3) := by decide +kernel
theorem dL_of_98 : decode cL_of 98 = .ok (.aload_n 0, 1) := by decide +kernel
theorem dL_of_99 : decode cL_of 99 = .ok (.iload_n 2, 1) := by decide +kernel
theorem dL_of_100 : decode cL_of 100 = .ok (.invokevirtual 88, 3) := by decide +kernel
theorem dL_of_103 : decode cL_of 103 = .ok (.goto 44, 3) := by decide +kernel
theorem dL_of_106 : decode cL_of 106 = .ok (.iload_n 1, 1) := by decide +kernel
theorem dL_of_107 : decode cL_of 107 = .ok (.bipush 8, 2) := by decide +kernel
theorem dL_of_109 : decode cL_of 109 = .ok (.if_icmp .ne 11, 3) := by decide +kernel
theorem dL_of_112 : decode cL_of 112 = .ok (.aload_n 0, 1) := by decide +kernel
theorem dL_of_113 : decode cL_of 113 = .ok (.iload_n 2, 1) := by decide +kernel
theorem dL_of_114 : decode cL_of 114 = .ok (.invokevirtual 91, 3) := by decide +kernel
theorem dL_of_117 : decode cL_of 117 = .ok (.goto 30, 3) := by decide +kernel
theorem dL_of_120 : decode cL_of 120 = .ok (.iload_n 1, 1) := by decide +kernel
theorem dL_of_121 : decode cL_of 121 = .ok (.bipush 9, 2) := by decide +kernel
theorem dL_of_123 : decode cL_of 123 = .ok (.if_icmp .ne 11, 3) := by decide +kernel
theorem dL_of_126 : decode cL_of 126 = .ok (.aload_n 0, 1) := by decide +kernel
theorem dL_of_127 : decode cL_of 127 = .ok (.iload_n 2, 1) := by decide +kernel
theorem dL_of_128 : decode cL_of 128 = .ok (.invokevirtual 94, 3) := by decide +kernel
theorem dL_of_131 : decode cL_of 131 = .ok (.goto 16, 3) := by decide +kernel
theorem dL_of_134 : decode cL_of 134 = .ok (.aload_n 0, 1) := by decide +kernel
theorem dL_of_135 : decode cL_of 135 = .ok (.iload_n 2, 1) := by decide +kernel
theorem dL_of_136 : decode cL_of 136 = .ok (.invokevirtual 97, 3) := by decide +kernel
theorem dL_of_139 : decode cL_of 139 = .ok (.ifCond .eq 7, 3) := by decide +kernel
theorem dL_of_142 : decode cL_of 142 = .ok (.iconst 1, 1) := by decide +kernel
theorem dL_of_143 : decode cL_of 143 = .ok (.goto 4, 3) := by decide +kernel
theorem dL_of_146 : decode cL_of 146 = .ok (.iconst 0, 1) := by decide +kernel
theorem dL_of_147 : decode cL_of 147 = .ok (.ireturn, 1) := by decide +kernel
theorem dL_of_148 : decode cL_of 148 = .ok (.astore 4, 2) := by decide +kernel
theorem dL_of_150 : decode cL_of 150 = .ok (.sipush (-1241), 3) := by decide +kernel
theorem dL_of_153 : decode cL_of 153 = .ok (.ireturn, 1) := by decide +kernel
theorem dL_of_154 : decode cL_of 154 = .ok (.astore 4, 2) := by decide +kernel
theorem dL_of_156 : decode cL_of 156 = .ok (.sipush (-1242), 3) := by decide +kernel
theorem dL_of_159 : decode cL_of 159 = .ok (.ireturn, 1) := by decide +kernel
theorem dL_of_160 : decode cL_of 160 = .ok (.astore 4, 2) := by decide +kernel
theorem dL_of_162 : decode cL_of 162 = .ok (.sipush (-1244), 3) := by decide +kernel
theorem dL_of_165 : decode cL_of 165 = .ok (.ireturn, 1) := by decide +kernel
def f_L_of (F Z : Nat) (s : St) (p1 : Int32) (p2 : Int32) (p3 : Int32) : Option (Int32 × St) :=
  if p1 = 0 then
    ((qc Z s (fun z => f_P_planned F z s p2)).bind fun x1 => (hnd x1.1 (fun e => if e = 2 then some ((-1241), x1.2) else (if e = 0 then some ((-1242), x1.2) else (if e = 3 then some ((-1244), x1.2) else none))) fun v2 => (some (v2, x1.2))))
  else
    (if p1 = 1 then
      ((qc Z s (fun z => f_P_holder F z s p2)).bind fun x3 => (hnd x3.1 (fun e => if e = 2 then some ((-1241), x3.2) else (if e = 0 then some ((-1242), x3.2) else (if e = 3 then some ((-1244), x3.2) else none))) fun v4 => (some (v4, x3.2))))
    else
      (if p1 = 2 then
        ((qc Z s (fun z => f_P_nights F z s p2)).bind fun x5 => (hnd x5.1 (fun e => if e = 2 then some ((-1241), x5.2) else (if e = 0 then some ((-1242), x5.2) else (if e = 3 then some ((-1244), x5.2) else none))) fun v6 => (some (v6, x5.2))))
      else
        (if p1 = 3 then
          ((qc Z s (fun z => f_P_owes F z s p2 p3)).bind fun x7 => (hnd x7.1 (fun e => if e = 2 then some ((-1241), x7.2) else (if e = 0 then some ((-1242), x7.2) else (if e = 3 then some ((-1244), x7.2) else none))) fun v8 => (some (v8, x7.2))))
        else
          (if p1 = 4 then
            ((qc Z s (fun z => f_P_inWindow F z s p2)).bind fun x9 => (hnd x9.1 (fun e => if e = 2 then some ((-1241), x9.2) else (if e = 0 then some ((-1242), x9.2) else (if e = 3 then some ((-1244), x9.2) else none))) fun v10 => (some (v10, x9.2))))
          else
            (if p1 = 5 then
              ((qc Z s (fun z => f_P_rises F z s p2)).bind fun x11 => (hnd x11.1 (fun e => if e = 2 then some ((-1241), x11.2) else (if e = 0 then some ((-1242), x11.2) else (if e = 3 then some ((-1244), x11.2) else none))) fun v12 => (some (v12, x11.2))))
            else
              (if p1 = 6 then
                ((qc Z s (fun z => f_P_risesAnew F z s p2)).bind fun x13 => (hnd x13.1 (fun e => if e = 2 then some ((-1241), x13.2) else (if e = 0 then some ((-1242), x13.2) else (if e = 3 then some ((-1244), x13.2) else none))) fun v14 => (some (v14, x13.2))))
              else
                (if p1 = 7 then
                  ((qc Z s (fun z => f_P_alarm F z s p2)).bind fun x15 => (hnd x15.1 (fun e => if e = 2 then some ((-1241), x15.2) else (if e = 0 then some ((-1242), x15.2) else (if e = 3 then some ((-1244), x15.2) else none))) fun v16 => (some (v16, x15.2))))
                else
                  (if p1 = 8 then
                    ((qc Z s (fun z => f_P_woken F z s p2)).bind fun x17 => (hnd x17.1 (fun e => if e = 2 then some ((-1241), x17.2) else (if e = 0 then some ((-1242), x17.2) else (if e = 3 then some ((-1244), x17.2) else none))) fun v18 => (some (v18, x17.2))))
                  else
                    (if p1 = 9 then
                      ((qc Z s (fun z => f_P_wokenAt F z s p2)).bind fun x19 => (hnd x19.1 (fun e => if e = 2 then some ((-1241), x19.2) else (if e = 0 then some ((-1242), x19.2) else (if e = 3 then some ((-1244), x19.2) else none))) fun v20 => (some (v20, x19.2))))
                    else
                      ((qc Z s (fun z => f_P_wouldRise F z s p2)).bind fun x21 => (hnd x21.1 (fun e => if e = 2 then some ((-1241), x21.2) else (if e = 0 then some ((-1242), x21.2) else (if e = 3 then some ((-1244), x21.2) else none))) fun v22 => (if v22 = 0 then
                        (some (0, x21.2))
                      else
                        (some (1, x21.2))))))))))))))
set_option maxHeartbeats 1000000 in
theorem c_f_L_of {F Z : Nat} {s : St} {p1 : Int32} {p2 : Int32} {p3 : Int32} {r : Int32} {s' : St} (hf : f_L_of F Z s p1 p2 p3 = some (r, s')) (hz : ct s ≤ Z) : CX true yL_of (Cond.codeWith yL_of cL_of 5 (some .int) [(0, 147, 148, 45), (0, 147, 154, 47), (0, 147, 160, 101)]) 204 4695 (64 * (Z - ct s)) (768 * (Z - ct s)) (fun B => [.ref (B + 0), .int p1, .int p2, .int p3]) s (fun B => .inl (some (.int r))) s' (64 * (ct s' - ct s)) (768 * (ct s' - ct s)) := by
  refine CX.ofH (fun B => [(0, .ref (B + 0)), (1, .int p1), (2, .int p2), (3, .int p3)]) (by decide +kernel) (fun _ => rfl) (fun _ => (by simp [lg_sl, rfB_cat, catI, catL, catR])) (fun Γ D B X Y Yt hr => ?_)
  have X : Cx Γ RL cL_of 5 D B (RMg Z (ct s) 204 4695) := X
  have M : RLe (RMg Z (ct s) 204 4695) Z 0 0 (ct s) 204 4695 := RLe.rf
  have hc : Hc (ct s) Z s := ⟨Nat.le_refl _, hz⟩
  unfold f_L_of at hf
  refine r_iload_n (pc := 0) X dL_of_0 1 rfl ?_
  refine b_if_ne (tgt := 12) (pc := 1) X dL_of_1 (by decide) hf (fun hf => ?_) (fun hf => ?_)
  · refine r_aload_n (x := some 0) (pc := 4) X dL_of_4 0 rfl ?_
    refine r_iload_n (pc := 5) X dL_of_5 2 rfl ?_
    refine bnd hf (fun x1 h1 hf => ?_)
    refine t_callZi (As := [.int p2]) (st := []) (pc := 6) X M Y hc (qc_run (ou := ouI) hc.2 (fun z x h => c_f_P_planned h) h1) rfl w_801 w_802 w_803 w_36 w_804 hdV_X10_planned (Rc.s rfl ce_0) (by decide) (Nat.le_of_ble_eq_true rfl) dL_of_6 rfl hf (fun v2 hc hf => ?_) (fun e hc hf H1 locs1 ls ce q9 a2 a3 a4 a5 a6 a7 => by
        by_cases he : e = 2
        · subst he
          have hf := ifp hf rfl
          refine y_catch X Y Yt a5 a6 a7 [] [(0, 147, 154, 47), (0, 147, 160, 101)] rfl (fun z hz => nomatch hz) (by decide) (by decide) w_440 cst_2 ?_
          refine y_hand (kl := 4) (hp := 148) X a2 a3 a4 (by decide) dL_of_148 ?_
          refine r_sipush (v := -1241) (pc := 150) X dL_of_150 (by decide) ?_
          exact y_iret (pc := 153) X hr hf dL_of_153
        have hf := ifn hf he
        by_cases he : e = 0
        · subst he
          have hf := ifp hf rfl
          refine y_catch X Y Yt a5 a6 a7 [(0, 147, 148, 45)] [(0, 147, 160, 101)] rfl (List.forall_mem_cons.mpr ⟨⟨by decide, _, w_440, by decide +kernel⟩, (List.forall_mem_nil _)⟩) (by decide) (by decide) w_441 cst_0 ?_
          refine y_hand (kl := 4) (hp := 154) X a2 a3 a4 (by decide) dL_of_154 ?_
          refine r_sipush (v := -1242) (pc := 156) X dL_of_156 (by decide) ?_
          exact y_iret (pc := 159) X hr hf dL_of_159
        have hf := ifn hf he
        by_cases he : e = 3
        · subst he
          have hf := ifp hf rfl
          refine y_catch X Y Yt a5 a6 a7 [(0, 147, 148, 45), (0, 147, 154, 47)] [] rfl (List.forall_mem_cons.mpr ⟨⟨by decide, _, w_440, by decide +kernel⟩, (List.forall_mem_cons.mpr ⟨⟨by decide, _, w_441, by decide +kernel⟩, (List.forall_mem_nil _)⟩)⟩) (by decide) (by decide) w_800 cst_3 ?_
          refine y_hand (kl := 4) (hp := 160) X a2 a3 a4 (by decide) dL_of_160 ?_
          refine r_sipush (v := -1244) (pc := 162) X dL_of_162 (by decide) ?_
          exact y_iret (pc := 165) X hr hf dL_of_165
        have hf := ifn hf he
        cases hf)
    refine r_goto (tgt := 147) (pc := 9) X dL_of_9 (by decide) ?_
    exact y_iret (pc := 147) X hr hf dL_of_147
  · refine r_iload_n (pc := 12) X dL_of_12 1 rfl ?_
    refine r_iconst (v := 1) (pc := 13) X dL_of_13 (by decide) ?_
    refine b_icmp_ne (tgt := 25) (pc := 14) X dL_of_14 (by decide) hf (fun hf => ?_) (fun hf => ?_)
    · refine r_aload_n (x := some 0) (pc := 17) X dL_of_17 0 rfl ?_
      refine r_iload_n (pc := 18) X dL_of_18 2 rfl ?_
      refine bnd hf (fun x3 h3 hf => ?_)
      refine t_callZi (As := [.int p2]) (st := []) (pc := 19) X M Y hc (qc_run (ou := ouI) hc.2 (fun z x h => c_f_P_holder h) h3) rfl w_806 w_807 w_808 w_36 w_809 hdV_X10_holder (Rc.s rfl ce_0) (by decide) (Nat.le_of_ble_eq_true rfl) dL_of_19 rfl hf (fun v4 hc hf => ?_) (fun e hc hf H1 locs1 ls ce q9 a2 a3 a4 a5 a6 a7 => by
          by_cases he : e = 2
          · subst he
            have hf := ifp hf rfl
            refine y_catch X Y Yt a5 a6 a7 [] [(0, 147, 154, 47), (0, 147, 160, 101)] rfl (fun z hz => nomatch hz) (by decide) (by decide) w_440 cst_2 ?_
            refine y_hand (kl := 4) (hp := 148) X a2 a3 a4 (by decide) dL_of_148 ?_
            refine r_sipush (v := -1241) (pc := 150) X dL_of_150 (by decide) ?_
            exact y_iret (pc := 153) X hr hf dL_of_153
          have hf := ifn hf he
          by_cases he : e = 0
          · subst he
            have hf := ifp hf rfl
            refine y_catch X Y Yt a5 a6 a7 [(0, 147, 148, 45)] [(0, 147, 160, 101)] rfl (List.forall_mem_cons.mpr ⟨⟨by decide, _, w_440, by decide +kernel⟩, (List.forall_mem_nil _)⟩) (by decide) (by decide) w_441 cst_0 ?_
            refine y_hand (kl := 4) (hp := 154) X a2 a3 a4 (by decide) dL_of_154 ?_
            refine r_sipush (v := -1242) (pc := 156) X dL_of_156 (by decide) ?_
            exact y_iret (pc := 159) X hr hf dL_of_159
          have hf := ifn hf he
          by_cases he : e = 3
          · subst he
            have hf := ifp hf rfl
            refine y_catch X Y Yt a5 a6 a7 [(0, 147, 148, 45), (0, 147, 154, 47)] [] rfl (List.forall_mem_cons.mpr ⟨⟨by decide, _, w_440, by decide +kernel⟩, (List.forall_mem_cons.mpr ⟨⟨by decide, _, w_441, by decide +kernel⟩, (List.forall_mem_nil _)⟩)⟩) (by decide) (by decide) w_800 cst_3 ?_
            refine y_hand (kl := 4) (hp := 160) X a2 a3 a4 (by decide) dL_of_160 ?_
            refine r_sipush (v := -1244) (pc := 162) X dL_of_162 (by decide) ?_
            exact y_iret (pc := 165) X hr hf dL_of_165
          have hf := ifn hf he
          cases hf)
      refine r_goto (tgt := 147) (pc := 22) X dL_of_22 (by decide) ?_
      exact y_iret (pc := 147) X hr hf dL_of_147
    · refine r_iload_n (pc := 25) X dL_of_25 1 rfl ?_
      refine r_iconst (v := 2) (pc := 26) X dL_of_26 (by decide) ?_
      refine b_icmp_ne (tgt := 38) (pc := 27) X dL_of_27 (by decide) hf (fun hf => ?_) (fun hf => ?_)
      · refine r_aload_n (x := some 0) (pc := 30) X dL_of_30 0 rfl ?_
        refine r_iload_n (pc := 31) X dL_of_31 2 rfl ?_
        refine bnd hf (fun x5 h5 hf => ?_)
        refine t_callZi (As := [.int p2]) (st := []) (pc := 32) X M Y hc (qc_run (ou := ouI) hc.2 (fun z x h => c_f_P_nights h) h5) rfl w_810 w_811 w_812 w_36 w_813 hdV_X10_nights (Rc.s rfl ce_0) (by decide) (Nat.le_of_ble_eq_true rfl) dL_of_32 rfl hf (fun v6 hc hf => ?_) (fun e hc hf H1 locs1 ls ce q9 a2 a3 a4 a5 a6 a7 => by
            by_cases he : e = 2
            · subst he
              have hf := ifp hf rfl
              refine y_catch X Y Yt a5 a6 a7 [] [(0, 147, 154, 47), (0, 147, 160, 101)] rfl (fun z hz => nomatch hz) (by decide) (by decide) w_440 cst_2 ?_
              refine y_hand (kl := 4) (hp := 148) X a2 a3 a4 (by decide) dL_of_148 ?_
              refine r_sipush (v := -1241) (pc := 150) X dL_of_150 (by decide) ?_
              exact y_iret (pc := 153) X hr hf dL_of_153
            have hf := ifn hf he
            by_cases he : e = 0
            · subst he
              have hf := ifp hf rfl
              refine y_catch X Y Yt a5 a6 a7 [(0, 147, 148, 45)] [(0, 147, 160, 101)] rfl (List.forall_mem_cons.mpr ⟨⟨by decide, _, w_440, by decide +kernel⟩, (List.forall_mem_nil _)⟩) (by decide) (by decide) w_441 cst_0 ?_
              refine y_hand (kl := 4) (hp := 154) X a2 a3 a4 (by decide) dL_of_154 ?_
              refine r_sipush (v := -1242) (pc := 156) X dL_of_156 (by decide) ?_
              exact y_iret (pc := 159) X hr hf dL_of_159
            have hf := ifn hf he
            by_cases he : e = 3
            · subst he
              have hf := ifp hf rfl
              refine y_catch X Y Yt a5 a6 a7 [(0, 147, 148, 45), (0, 147, 154, 47)] [] rfl (List.forall_mem_cons.mpr ⟨⟨by decide, _, w_440, by decide +kernel⟩, (List.forall_mem_cons.mpr ⟨⟨by decide, _, w_441, by decide +kernel⟩, (List.forall_mem_nil _)⟩)⟩) (by decide) (by decide) w_800 cst_3 ?_
              refine y_hand (kl := 4) (hp := 160) X a2 a3 a4 (by decide) dL_of_160 ?_
              refine r_sipush (v := -1244) (pc := 162) X dL_of_162 (by decide) ?_
              exact y_iret (pc := 165) X hr hf dL_of_165
            have hf := ifn hf he
            cases hf)
        refine r_goto (tgt := 147) (pc := 35) X dL_of_35 (by decide) ?_
        exact y_iret (pc := 147) X hr hf dL_of_147
      · refine r_iload_n (pc := 38) X dL_of_38 1 rfl ?_
        refine r_iconst (v := 3) (pc := 39) X dL_of_39 (by decide) ?_
        refine b_icmp_ne (tgt := 52) (pc := 40) X dL_of_40 (by decide) hf (fun hf => ?_) (fun hf => ?_)
        · refine r_aload_n (x := some 0) (pc := 43) X dL_of_43 0 rfl ?_
          refine r_iload_n (pc := 44) X dL_of_44 2 rfl ?_
          refine r_iload_n (pc := 45) X dL_of_45 3 rfl ?_
          refine bnd hf (fun x7 h7 hf => ?_)
          refine t_callZi (As := [.int p2, .int p3]) (st := []) (pc := 46) X M Y hc (qc_run (ou := ouI) hc.2 (fun z x h => c_f_P_owes h) h7) rfl w_818 w_819 w_820 w_36 w_821 hdV_X10_owes (Rc.s rfl ce_0) (by decide) (Nat.le_of_ble_eq_true rfl) dL_of_46 rfl hf (fun v8 hc hf => ?_) (fun e hc hf H1 locs1 ls ce q9 a2 a3 a4 a5 a6 a7 => by
              by_cases he : e = 2
              · subst he
                have hf := ifp hf rfl
                refine y_catch X Y Yt a5 a6 a7 [] [(0, 147, 154, 47), (0, 147, 160, 101)] rfl (fun z hz => nomatch hz) (by decide) (by decide) w_440 cst_2 ?_
                refine y_hand (kl := 4) (hp := 148) X a2 a3 a4 (by decide) dL_of_148 ?_
                refine r_sipush (v := -1241) (pc := 150) X dL_of_150 (by decide) ?_
                exact y_iret (pc := 153) X hr hf dL_of_153
              have hf := ifn hf he
              by_cases he : e = 0
              · subst he
                have hf := ifp hf rfl
                refine y_catch X Y Yt a5 a6 a7 [(0, 147, 148, 45)] [(0, 147, 160, 101)] rfl (List.forall_mem_cons.mpr ⟨⟨by decide, _, w_440, by decide +kernel⟩, (List.forall_mem_nil _)⟩) (by decide) (by decide) w_441 cst_0 ?_
                refine y_hand (kl := 4) (hp := 154) X a2 a3 a4 (by decide) dL_of_154 ?_
                refine r_sipush (v := -1242) (pc := 156) X dL_of_156 (by decide) ?_
                exact y_iret (pc := 159) X hr hf dL_of_159
              have hf := ifn hf he
              by_cases he : e = 3
              · subst he
                have hf := ifp hf rfl
                refine y_catch X Y Yt a5 a6 a7 [(0, 147, 148, 45), (0, 147, 154, 47)] [] rfl (List.forall_mem_cons.mpr ⟨⟨by decide, _, w_440, by decide +kernel⟩, (List.forall_mem_cons.mpr ⟨⟨by decide, _, w_441, by decide +kernel⟩, (List.forall_mem_nil _)⟩)⟩) (by decide) (by decide) w_800 cst_3 ?_
                refine y_hand (kl := 4) (hp := 160) X a2 a3 a4 (by decide) dL_of_160 ?_
                refine r_sipush (v := -1244) (pc := 162) X dL_of_162 (by decide) ?_
                exact y_iret (pc := 165) X hr hf dL_of_165
              have hf := ifn hf he
              cases hf)
          refine r_goto (tgt := 147) (pc := 49) X dL_of_49 (by decide) ?_
          exact y_iret (pc := 147) X hr hf dL_of_147
        · refine r_iload_n (pc := 52) X dL_of_52 1 rfl ?_
          refine r_iconst (v := 4) (pc := 53) X dL_of_53 (by decide) ?_
          refine b_icmp_ne (tgt := 65) (pc := 54) X dL_of_54 (by decide) hf (fun hf => ?_) (fun hf => ?_)
          · refine r_aload_n (x := some 0) (pc := 57) X dL_of_57 0 rfl ?_
            refine r_iload_n (pc := 58) X dL_of_58 2 rfl ?_
            refine bnd hf (fun x9 h9 hf => ?_)
            refine t_callZi (As := [.int p2]) (st := []) (pc := 59) X M Y hc (qc_run (ou := ouI) hc.2 (fun z x h => c_f_P_inWindow h) h9) rfl w_826 w_827 w_828 w_36 w_829 hdV_X10_inWindow (Rc.s rfl ce_0) (by decide) (Nat.le_of_ble_eq_true rfl) dL_of_59 rfl hf (fun v10 hc hf => ?_) (fun e hc hf H1 locs1 ls ce q9 a2 a3 a4 a5 a6 a7 => by
                by_cases he : e = 2
                · subst he
                  have hf := ifp hf rfl
                  refine y_catch X Y Yt a5 a6 a7 [] [(0, 147, 154, 47), (0, 147, 160, 101)] rfl (fun z hz => nomatch hz) (by decide) (by decide) w_440 cst_2 ?_
                  refine y_hand (kl := 4) (hp := 148) X a2 a3 a4 (by decide) dL_of_148 ?_
                  refine r_sipush (v := -1241) (pc := 150) X dL_of_150 (by decide) ?_
                  exact y_iret (pc := 153) X hr hf dL_of_153
                have hf := ifn hf he
                by_cases he : e = 0
                · subst he
                  have hf := ifp hf rfl
                  refine y_catch X Y Yt a5 a6 a7 [(0, 147, 148, 45)] [(0, 147, 160, 101)] rfl (List.forall_mem_cons.mpr ⟨⟨by decide, _, w_440, by decide +kernel⟩, (List.forall_mem_nil _)⟩) (by decide) (by decide) w_441 cst_0 ?_
                  refine y_hand (kl := 4) (hp := 154) X a2 a3 a4 (by decide) dL_of_154 ?_
                  refine r_sipush (v := -1242) (pc := 156) X dL_of_156 (by decide) ?_
                  exact y_iret (pc := 159) X hr hf dL_of_159
                have hf := ifn hf he
                by_cases he : e = 3
                · subst he
                  have hf := ifp hf rfl
                  refine y_catch X Y Yt a5 a6 a7 [(0, 147, 148, 45), (0, 147, 154, 47)] [] rfl (List.forall_mem_cons.mpr ⟨⟨by decide, _, w_440, by decide +kernel⟩, (List.forall_mem_cons.mpr ⟨⟨by decide, _, w_441, by decide +kernel⟩, (List.forall_mem_nil _)⟩)⟩) (by decide) (by decide) w_800 cst_3 ?_
                  refine y_hand (kl := 4) (hp := 160) X a2 a3 a4 (by decide) dL_of_160 ?_
                  refine r_sipush (v := -1244) (pc := 162) X dL_of_162 (by decide) ?_
                  exact y_iret (pc := 165) X hr hf dL_of_165
                have hf := ifn hf he
                cases hf)
            refine r_goto (tgt := 147) (pc := 62) X dL_of_62 (by decide) ?_
            exact y_iret (pc := 147) X hr hf dL_of_147
          · refine r_iload_n (pc := 65) X dL_of_65 1 rfl ?_
            refine r_iconst (v := 5) (pc := 66) X dL_of_66 (by decide) ?_
            refine b_icmp_ne (tgt := 78) (pc := 67) X dL_of_67 (by decide) hf (fun hf => ?_) (fun hf => ?_)
            · refine r_aload_n (x := some 0) (pc := 70) X dL_of_70 0 rfl ?_
              refine r_iload_n (pc := 71) X dL_of_71 2 rfl ?_
              refine bnd hf (fun x11 h11 hf => ?_)
              refine t_callZi (As := [.int p2]) (st := []) (pc := 72) X M Y hc (qc_run (ou := ouI) hc.2 (fun z x h => c_f_P_rises h) h11) rfl w_351 w_352 w_353 w_36 w_354 hdV_X10_rises (Rc.s rfl ce_0) (by decide) (Nat.le_of_ble_eq_true rfl) dL_of_72 rfl hf (fun v12 hc hf => ?_) (fun e hc hf H1 locs1 ls ce q9 a2 a3 a4 a5 a6 a7 => by
                  by_cases he : e = 2
                  · subst he
                    have hf := ifp hf rfl
                    refine y_catch X Y Yt a5 a6 a7 [] [(0, 147, 154, 47), (0, 147, 160, 101)] rfl (fun z hz => nomatch hz) (by decide) (by decide) w_440 cst_2 ?_
                    refine y_hand (kl := 4) (hp := 148) X a2 a3 a4 (by decide) dL_of_148 ?_
                    refine r_sipush (v := -1241) (pc := 150) X dL_of_150 (by decide) ?_
                    exact y_iret (pc := 153) X hr hf dL_of_153
                  have hf := ifn hf he
                  by_cases he : e = 0
                  · subst he
                    have hf := ifp hf rfl
                    refine y_catch X Y Yt a5 a6 a7 [(0, 147, 148, 45)] [(0, 147, 160, 101)] rfl (List.forall_mem_cons.mpr ⟨⟨by decide, _, w_440, by decide +kernel⟩, (List.forall_mem_nil _)⟩) (by decide) (by decide) w_441 cst_0 ?_
                    refine y_hand (kl := 4) (hp := 154) X a2 a3 a4 (by decide) dL_of_154 ?_
                    refine r_sipush (v := -1242) (pc := 156) X dL_of_156 (by decide) ?_
                    exact y_iret (pc := 159) X hr hf dL_of_159
                  have hf := ifn hf he
                  by_cases he : e = 3
                  · subst he
                    have hf := ifp hf rfl
                    refine y_catch X Y Yt a5 a6 a7 [(0, 147, 148, 45), (0, 147, 154, 47)] [] rfl (List.forall_mem_cons.mpr ⟨⟨by decide, _, w_440, by decide +kernel⟩, (List.forall_mem_cons.mpr ⟨⟨by decide, _, w_441, by decide +kernel⟩, (List.forall_mem_nil _)⟩)⟩) (by decide) (by decide) w_800 cst_3 ?_
                    refine y_hand (kl := 4) (hp := 160) X a2 a3 a4 (by decide) dL_of_160 ?_
                    refine r_sipush (v := -1244) (pc := 162) X dL_of_162 (by decide) ?_
                    exact y_iret (pc := 165) X hr hf dL_of_165
                  have hf := ifn hf he
                  cases hf)
              refine r_goto (tgt := 147) (pc := 75) X dL_of_75 (by decide) ?_
              exact y_iret (pc := 147) X hr hf dL_of_147
            · refine r_iload_n (pc := 78) X dL_of_78 1 rfl ?_
              refine r_bipush (v := 6) (pc := 79) X dL_of_79 (by decide) ?_
              refine b_icmp_ne (tgt := 92) (pc := 81) X dL_of_81 (by decide) hf (fun hf => ?_) (fun hf => ?_)
              · refine r_aload_n (x := some 0) (pc := 84) X dL_of_84 0 rfl ?_
                refine r_iload_n (pc := 85) X dL_of_85 2 rfl ?_
                refine bnd hf (fun x13 h13 hf => ?_)
                refine t_callZi (As := [.int p2]) (st := []) (pc := 86) X M Y hc (qc_run (ou := ouI) hc.2 (fun z x h => c_f_P_risesAnew h) h13) rfl w_830 w_831 w_832 w_36 w_833 hdV_X10_risesAnew (Rc.s rfl ce_0) (by decide) (Nat.le_of_ble_eq_true rfl) dL_of_86 rfl hf (fun v14 hc hf => ?_) (fun e hc hf H1 locs1 ls ce q9 a2 a3 a4 a5 a6 a7 => by
                    by_cases he : e = 2
                    · subst he
                      have hf := ifp hf rfl
                      refine y_catch X Y Yt a5 a6 a7 [] [(0, 147, 154, 47), (0, 147, 160, 101)] rfl (fun z hz => nomatch hz) (by decide) (by decide) w_440 cst_2 ?_
                      refine y_hand (kl := 4) (hp := 148) X a2 a3 a4 (by decide) dL_of_148 ?_
                      refine r_sipush (v := -1241) (pc := 150) X dL_of_150 (by decide) ?_
                      exact y_iret (pc := 153) X hr hf dL_of_153
                    have hf := ifn hf he
                    by_cases he : e = 0
                    · subst he
                      have hf := ifp hf rfl
                      refine y_catch X Y Yt a5 a6 a7 [(0, 147, 148, 45)] [(0, 147, 160, 101)] rfl (List.forall_mem_cons.mpr ⟨⟨by decide, _, w_440, by decide +kernel⟩, (List.forall_mem_nil _)⟩) (by decide) (by decide) w_441 cst_0 ?_
                      refine y_hand (kl := 4) (hp := 154) X a2 a3 a4 (by decide) dL_of_154 ?_
                      refine r_sipush (v := -1242) (pc := 156) X dL_of_156 (by decide) ?_
                      exact y_iret (pc := 159) X hr hf dL_of_159
                    have hf := ifn hf he
                    by_cases he : e = 3
                    · subst he
                      have hf := ifp hf rfl
                      refine y_catch X Y Yt a5 a6 a7 [(0, 147, 148, 45), (0, 147, 154, 47)] [] rfl (List.forall_mem_cons.mpr ⟨⟨by decide, _, w_440, by decide +kernel⟩, (List.forall_mem_cons.mpr ⟨⟨by decide, _, w_441, by decide +kernel⟩, (List.forall_mem_nil _)⟩)⟩) (by decide) (by decide) w_800 cst_3 ?_
                      refine y_hand (kl := 4) (hp := 160) X a2 a3 a4 (by decide) dL_of_160 ?_
                      refine r_sipush (v := -1244) (pc := 162) X dL_of_162 (by decide) ?_
                      exact y_iret (pc := 165) X hr hf dL_of_165
                    have hf := ifn hf he
                    cases hf)
                refine r_goto (tgt := 147) (pc := 89) X dL_of_89 (by decide) ?_
                exact y_iret (pc := 147) X hr hf dL_of_147
              · refine r_iload_n (pc := 92) X dL_of_92 1 rfl ?_
                refine r_bipush (v := 7) (pc := 93) X dL_of_93 (by decide) ?_
                refine b_icmp_ne (tgt := 106) (pc := 95) X dL_of_95 (by decide) hf (fun hf => ?_) (fun hf => ?_)
                · refine r_aload_n (x := some 0) (pc := 98) X dL_of_98 0 rfl ?_
                  refine r_iload_n (pc := 99) X dL_of_99 2 rfl ?_
                  refine bnd hf (fun x15 h15 hf => ?_)
                  refine t_callZi (As := [.int p2]) (st := []) (pc := 100) X M Y hc (qc_run (ou := ouI) hc.2 (fun z x h => c_f_P_alarm h) h15) rfl w_834 w_835 w_836 w_36 w_837 hdV_X10_alarm (Rc.s rfl ce_0) (by decide) (Nat.le_of_ble_eq_true rfl) dL_of_100 rfl hf (fun v16 hc hf => ?_) (fun e hc hf H1 locs1 ls ce q9 a2 a3 a4 a5 a6 a7 => by
                      by_cases he : e = 2
                      · subst he
                        have hf := ifp hf rfl
                        refine y_catch X Y Yt a5 a6 a7 [] [(0, 147, 154, 47), (0, 147, 160, 101)] rfl (fun z hz => nomatch hz) (by decide) (by decide) w_440 cst_2 ?_
                        refine y_hand (kl := 4) (hp := 148) X a2 a3 a4 (by decide) dL_of_148 ?_
                        refine r_sipush (v := -1241) (pc := 150) X dL_of_150 (by decide) ?_
                        exact y_iret (pc := 153) X hr hf dL_of_153
                      have hf := ifn hf he
                      by_cases he : e = 0
                      · subst he
                        have hf := ifp hf rfl
                        refine y_catch X Y Yt a5 a6 a7 [(0, 147, 148, 45)] [(0, 147, 160, 101)] rfl (List.forall_mem_cons.mpr ⟨⟨by decide, _, w_440, by decide +kernel⟩, (List.forall_mem_nil _)⟩) (by decide) (by decide) w_441 cst_0 ?_
                        refine y_hand (kl := 4) (hp := 154) X a2 a3 a4 (by decide) dL_of_154 ?_
                        refine r_sipush (v := -1242) (pc := 156) X dL_of_156 (by decide) ?_
                        exact y_iret (pc := 159) X hr hf dL_of_159
                      have hf := ifn hf he
                      by_cases he : e = 3
                      · subst he
                        have hf := ifp hf rfl
                        refine y_catch X Y Yt a5 a6 a7 [(0, 147, 148, 45), (0, 147, 154, 47)] [] rfl (List.forall_mem_cons.mpr ⟨⟨by decide, _, w_440, by decide +kernel⟩, (List.forall_mem_cons.mpr ⟨⟨by decide, _, w_441, by decide +kernel⟩, (List.forall_mem_nil _)⟩)⟩) (by decide) (by decide) w_800 cst_3 ?_
                        refine y_hand (kl := 4) (hp := 160) X a2 a3 a4 (by decide) dL_of_160 ?_
                        refine r_sipush (v := -1244) (pc := 162) X dL_of_162 (by decide) ?_
                        exact y_iret (pc := 165) X hr hf dL_of_165
                      have hf := ifn hf he
                      cases hf)
                  refine r_goto (tgt := 147) (pc := 103) X dL_of_103 (by decide) ?_
                  exact y_iret (pc := 147) X hr hf dL_of_147
                · refine r_iload_n (pc := 106) X dL_of_106 1 rfl ?_
                  refine r_bipush (v := 8) (pc := 107) X dL_of_107 (by decide) ?_
                  refine b_icmp_ne (tgt := 120) (pc := 109) X dL_of_109 (by decide) hf (fun hf => ?_) (fun hf => ?_)
                  · refine r_aload_n (x := some 0) (pc := 112) X dL_of_112 0 rfl ?_
                    refine r_iload_n (pc := 113) X dL_of_113 2 rfl ?_
                    refine bnd hf (fun x17 h17 hf => ?_)
                    refine t_callZi (As := [.int p2]) (st := []) (pc := 114) X M Y hc (qc_run (ou := ouI) hc.2 (fun z x h => c_f_P_woken h) h17) rfl w_838 w_839 w_840 w_36 w_841 hdV_X10_woken (Rc.s rfl ce_0) (by decide) (Nat.le_of_ble_eq_true rfl) dL_of_114 rfl hf (fun v18 hc hf => ?_) (fun e hc hf H1 locs1 ls ce q9 a2 a3 a4 a5 a6 a7 => by
                        by_cases he : e = 2
                        · subst he
                          have hf := ifp hf rfl
                          refine y_catch X Y Yt a5 a6 a7 [] [(0, 147, 154, 47), (0, 147, 160, 101)] rfl (fun z hz => nomatch hz) (by decide) (by decide) w_440 cst_2 ?_
                          refine y_hand (kl := 4) (hp := 148) X a2 a3 a4 (by decide) dL_of_148 ?_
                          refine r_sipush (v := -1241) (pc := 150) X dL_of_150 (by decide) ?_
                          exact y_iret (pc := 153) X hr hf dL_of_153
                        have hf := ifn hf he
                        by_cases he : e = 0
                        · subst he
                          have hf := ifp hf rfl
                          refine y_catch X Y Yt a5 a6 a7 [(0, 147, 148, 45)] [(0, 147, 160, 101)] rfl (List.forall_mem_cons.mpr ⟨⟨by decide, _, w_440, by decide +kernel⟩, (List.forall_mem_nil _)⟩) (by decide) (by decide) w_441 cst_0 ?_
                          refine y_hand (kl := 4) (hp := 154) X a2 a3 a4 (by decide) dL_of_154 ?_
                          refine r_sipush (v := -1242) (pc := 156) X dL_of_156 (by decide) ?_
                          exact y_iret (pc := 159) X hr hf dL_of_159
                        have hf := ifn hf he
                        by_cases he : e = 3
                        · subst he
                          have hf := ifp hf rfl
                          refine y_catch X Y Yt a5 a6 a7 [(0, 147, 148, 45), (0, 147, 154, 47)] [] rfl (List.forall_mem_cons.mpr ⟨⟨by decide, _, w_440, by decide +kernel⟩, (List.forall_mem_cons.mpr ⟨⟨by decide, _, w_441, by decide +kernel⟩, (List.forall_mem_nil _)⟩)⟩) (by decide) (by decide) w_800 cst_3 ?_
                          refine y_hand (kl := 4) (hp := 160) X a2 a3 a4 (by decide) dL_of_160 ?_
                          refine r_sipush (v := -1244) (pc := 162) X dL_of_162 (by decide) ?_
                          exact y_iret (pc := 165) X hr hf dL_of_165
                        have hf := ifn hf he
                        cases hf)
                    refine r_goto (tgt := 147) (pc := 117) X dL_of_117 (by decide) ?_
                    exact y_iret (pc := 147) X hr hf dL_of_147
                  · refine r_iload_n (pc := 120) X dL_of_120 1 rfl ?_
                    refine r_bipush (v := 9) (pc := 121) X dL_of_121 (by decide) ?_
                    refine b_icmp_ne (tgt := 134) (pc := 123) X dL_of_123 (by decide) hf (fun hf => ?_) (fun hf => ?_)
                    · refine r_aload_n (x := some 0) (pc := 126) X dL_of_126 0 rfl ?_
                      refine r_iload_n (pc := 127) X dL_of_127 2 rfl ?_
                      refine bnd hf (fun x19 h19 hf => ?_)
                      refine t_callZi (As := [.int p2]) (st := []) (pc := 128) X M Y hc (qc_run (ou := ouI) hc.2 (fun z x h => c_f_P_wokenAt h) h19) rfl w_842 w_843 w_844 w_36 w_845 hdV_X10_wokenAt (Rc.s rfl ce_0) (by decide) (Nat.le_of_ble_eq_true rfl) dL_of_128 rfl hf (fun v20 hc hf => ?_) (fun e hc hf H1 locs1 ls ce q9 a2 a3 a4 a5 a6 a7 => by
                          by_cases he : e = 2
                          · subst he
                            have hf := ifp hf rfl
                            refine y_catch X Y Yt a5 a6 a7 [] [(0, 147, 154, 47), (0, 147, 160, 101)] rfl (fun z hz => nomatch hz) (by decide) (by decide) w_440 cst_2 ?_
                            refine y_hand (kl := 4) (hp := 148) X a2 a3 a4 (by decide) dL_of_148 ?_
                            refine r_sipush (v := -1241) (pc := 150) X dL_of_150 (by decide) ?_
                            exact y_iret (pc := 153) X hr hf dL_of_153
                          have hf := ifn hf he
                          by_cases he : e = 0
                          · subst he
                            have hf := ifp hf rfl
                            refine y_catch X Y Yt a5 a6 a7 [(0, 147, 148, 45)] [(0, 147, 160, 101)] rfl (List.forall_mem_cons.mpr ⟨⟨by decide, _, w_440, by decide +kernel⟩, (List.forall_mem_nil _)⟩) (by decide) (by decide) w_441 cst_0 ?_
                            refine y_hand (kl := 4) (hp := 154) X a2 a3 a4 (by decide) dL_of_154 ?_
                            refine r_sipush (v := -1242) (pc := 156) X dL_of_156 (by decide) ?_
                            exact y_iret (pc := 159) X hr hf dL_of_159
                          have hf := ifn hf he
                          by_cases he : e = 3
                          · subst he
                            have hf := ifp hf rfl
                            refine y_catch X Y Yt a5 a6 a7 [(0, 147, 148, 45), (0, 147, 154, 47)] [] rfl (List.forall_mem_cons.mpr ⟨⟨by decide, _, w_440, by decide +kernel⟩, (List.forall_mem_cons.mpr ⟨⟨by decide, _, w_441, by decide +kernel⟩, (List.forall_mem_nil _)⟩)⟩) (by decide) (by decide) w_800 cst_3 ?_
                            refine y_hand (kl := 4) (hp := 160) X a2 a3 a4 (by decide) dL_of_160 ?_
                            refine r_sipush (v := -1244) (pc := 162) X dL_of_162 (by decide) ?_
                            exact y_iret (pc := 165) X hr hf dL_of_165
                          have hf := ifn hf he
                          cases hf)
                      refine r_goto (tgt := 147) (pc := 131) X dL_of_131 (by decide) ?_
                      exact y_iret (pc := 147) X hr hf dL_of_147
                    · refine r_aload_n (x := some 0) (pc := 134) X dL_of_134 0 rfl ?_
                      refine r_iload_n (pc := 135) X dL_of_135 2 rfl ?_
                      refine bnd hf (fun x21 h21 hf => ?_)
                      refine t_callZi (As := [.int p2]) (st := []) (pc := 136) X M Y hc (qc_run (ou := ouI) hc.2 (fun z x h => c_f_P_wouldRise h) h21) rfl w_862 w_863 w_864 w_36 w_865 hdV_X10_wouldRise (Rc.s rfl ce_0) (by decide) (Nat.le_of_ble_eq_true rfl) dL_of_136 rfl hf (fun v22 hc hf => ?_) (fun e hc hf H1 locs1 ls ce q9 a2 a3 a4 a5 a6 a7 => by
                          by_cases he : e = 2
                          · subst he
                            have hf := ifp hf rfl
                            refine y_catch X Y Yt a5 a6 a7 [] [(0, 147, 154, 47), (0, 147, 160, 101)] rfl (fun z hz => nomatch hz) (by decide) (by decide) w_440 cst_2 ?_
                            refine y_hand (kl := 4) (hp := 148) X a2 a3 a4 (by decide) dL_of_148 ?_
                            refine r_sipush (v := -1241) (pc := 150) X dL_of_150 (by decide) ?_
                            exact y_iret (pc := 153) X hr hf dL_of_153
                          have hf := ifn hf he
                          by_cases he : e = 0
                          · subst he
                            have hf := ifp hf rfl
                            refine y_catch X Y Yt a5 a6 a7 [(0, 147, 148, 45)] [(0, 147, 160, 101)] rfl (List.forall_mem_cons.mpr ⟨⟨by decide, _, w_440, by decide +kernel⟩, (List.forall_mem_nil _)⟩) (by decide) (by decide) w_441 cst_0 ?_
                            refine y_hand (kl := 4) (hp := 154) X a2 a3 a4 (by decide) dL_of_154 ?_
                            refine r_sipush (v := -1242) (pc := 156) X dL_of_156 (by decide) ?_
                            exact y_iret (pc := 159) X hr hf dL_of_159
                          have hf := ifn hf he
                          by_cases he : e = 3
                          · subst he
                            have hf := ifp hf rfl
                            refine y_catch X Y Yt a5 a6 a7 [(0, 147, 148, 45), (0, 147, 154, 47)] [] rfl (List.forall_mem_cons.mpr ⟨⟨by decide, _, w_440, by decide +kernel⟩, (List.forall_mem_cons.mpr ⟨⟨by decide, _, w_441, by decide +kernel⟩, (List.forall_mem_nil _)⟩)⟩) (by decide) (by decide) w_800 cst_3 ?_
                            refine y_hand (kl := 4) (hp := 160) X a2 a3 a4 (by decide) dL_of_160 ?_
                            refine r_sipush (v := -1244) (pc := 162) X dL_of_162 (by decide) ?_
                            exact y_iret (pc := 165) X hr hf dL_of_165
                          have hf := ifn hf he
                          cases hf)
                      refine b_if_eq (tgt := 146) (pc := 139) X dL_of_139 (by decide) hf (fun hf => ?_) (fun hf => ?_)
                      · refine r_iconst (v := 0) (pc := 146) X dL_of_146 (by decide) ?_
                        exact y_iret (pc := 147) X hr hf dL_of_147
                      · refine r_iconst (v := 1) (pc := 142) X dL_of_142 (by decide) ?_
                        refine r_goto (tgt := 147) (pc := 143) X dL_of_143 (by decide) ?_
                        exact y_iret (pc := 147) X hr hf dL_of_147
