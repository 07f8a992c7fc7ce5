/-! f_L_all -/
theorem dL_all_0 : decode cL_all 0 = .ok (.aload_n 0, 1) := by decide +kernel
theorem dL_all_1 : decode cL_all 1 = .ok (.invokevirtual 103, 3) := by decide +kernel
theorem dL_all_4 : decode cL_all 4 = .ok (.i2l, 1) := by decide +kernel
theorem dL_all_5 : decode cL_all 5 = .ok (.ldc2_w 106, 3) := by decide +kernel
theorem dL_all_8 : decode cL_all 8 = .ok (.aload_n 0, 1) := by decide +kernel
theorem dL_all_9 : decode cL_all 9 = .ok (.invokevirtual 108, 3) := by decide +kernel
theorem dL_all_12 : decode cL_all 12 = .ok (.i2l, 1) := by decide +kernel
theorem dL_all_13 : decode cL_all 13 = .ok (.lmul, 1) := by decide +kernel
theorem dL_all_14 : decode cL_all 14 = .ok (.ladd, 1) := by decide +kernel
theorem dL_all_15 : decode cL_all 15 = .ok (.ldc2_w 111, 3) := by decide +kernel
theorem dL_all_18 : decode cL_all 18 = .ok (.aload_n 0, 1) := by decide +kernel
theorem dL_all_19 : decode cL_all 19 = .ok (.invokevirtual 113, 3) := by decide +kernel
theorem dL_all_22 : decode cL_all 22 = .ok (.i2l, 1) := by decide +kernel
theorem dL_all_23 : decode cL_all 23 = .ok (.lmul, 1) := by decide +kernel
theorem dL_all_24 : decode cL_all 24 = .ok (.ladd, 1) := by decide +kernel
theorem dL_all_25 : decode cL_all 25 = .ok (.ldc2_w 116, 3) := by decide +kernel
theorem dL_all_28 : decode cL_all 28 = .ok (.aload_n 0, 1) := by decide +kernel
theorem dL_all_29 : decode cL_all 29 = .ok (.invokevirtual 118, 3) := by decide +kernel
theorem dL_all_32 : decode cL_all 32 = .ok (.i2l, 1) := by decide +kernel
theorem dL_all_33 : decode cL_all 33 = .ok (.lmul, 1) := by decide +kernel
theorem dL_all_34 : decode cL_all 34 = .ok (.ladd, 1) := by decide +kernel
theorem dL_all_35 : decode cL_all 35 = .ok (.ldc2_w 121, 3) := by decide +kernel
theorem dL_all_38 : decode cL_all 38 = .ok (.aload_n 0, 1) := by decide +kernel
theorem dL_all_39 : decode cL_all 39 = .ok (.invokevirtual 123, 3) := by decide +kernel
theorem dL_all_42 : decode cL_all 42 = .ok (.i2l, 1) := by decide +kernel
theorem dL_all_43 : decode cL_all 43 = .ok (.lmul, 1) := by decide +kernel
theorem dL_all_44 : decode cL_all 44 = .ok (.ladd, 1) := by decide +kernel
theorem dL_all_45 : decode cL_all 45 = .ok (.lstore_n 2, 1) := by decide +kernel
theorem dL_all_46 : decode cL_all 46 = .ok (.iconst 0, 1) := by decide +kernel
theorem dL_all_47 : decode cL_all 47 = .ok (.istore 4, 2) := by decide +kernel
theorem dL_all_49 : decode cL_all 49 = .ok (.iload 4, 2) := by decide +kernel
theorem dL_all_51 : decode cL_all 51 = .ok (.aload_n 1, 1) := by decide +kernel
theorem dL_all_52 : decode cL_all 52 = .ok (.iconst 0, 1) := by decide +kernel
theorem dL_all_53 : decode cL_all 53 = .ok (.iaload, 1) := by decide +kernel
theorem dL_all_54 : decode cL_all 54 = .ok (.if_icmp .ge 49, 3) := by decide +kernel
theorem dL_all_57 : decode cL_all 57 = .ok (.ldc2_w 126, 3) := by decide +kernel
theorem dL_all_60 : decode cL_all 60 = .ok (.lload_n 2, 1) := by decide +kernel
theorem dL_all_61 : decode cL_all 61 = .ok (.lmul, 1) := by decide +kernel
theorem dL_all_62 : decode cL_all 62 = .ok (.aload_n 0, 1) := by decide +kernel
theorem dL_all_63 : decode cL_all 63 = .ok (.iload 4, 2) := by decide +kernel
theorem dL_all_65 : decode cL_all 65 = .ok (.invokevirtual 72, 3) := by decide +kernel
theorem dL_all_68 : decode cL_all 68 = .ok (.i2l, 1) := by decide +kernel
theorem dL_all_69 : decode cL_all 69 = .ok (.ladd, 1) := by decide +kernel
theorem dL_all_70 : decode cL_all 70 = .ok (.ldc2_w 106, 3) := by decide +kernel
theorem dL_all_73 : decode cL_all 73 = .ok (.aload_n 0, 1) := by decide +kernel
theorem dL_all_74 : decode cL_all 74 = .ok (.iload 4, 2) := by decide +kernel
theorem dL_all_76 : decode cL_all 76 = .ok (.iconst 0, 1) := by decide +kernel
theorem dL_all_77 : decode cL_all 77 = .ok (.invokevirtual 75, 3) := by decide +kernel
theorem dL_all_80 : decode cL_all 80 = .ok (.i2l, 1) := by decide +kernel
theorem dL_all_81 : decode cL_all 81 = .ok (.lmul, 1) := by decide +kernel
theorem dL_all_82 : decode cL_all 82 = .ok (.ladd, 1) := by decide +kernel
theorem dL_all_83 : decode cL_all 83 = .ok (.ldc2_w 111, 3) := by decide +kernel
theorem dL_all_86 : decode cL_all 86 = .ok (.aload_n 0, 1) := by decide +kernel
theorem dL_all_87 : decode cL_all 87 = .ok (.iconst 0, 1) := by decide +kernel
theorem dL_all_88 : decode cL_all 88 = .ok (.iload 4, 2) := by decide +kernel
theorem dL_all_90 : decode cL_all 90 = .ok (.invokevirtual 75, 3) := by decide +kernel
theorem dL_all_93 : decode cL_all 93 = .ok (.i2l, 1) := by decide +kernel
theorem dL_all_94 : decode cL_all 94 = .ok (.lmul, 1) := by decide +kernel
theorem dL_all_95 : decode cL_all 95 = .ok (.ladd, 1) := by decide +kernel
theorem dL_all_96 : decode cL_all 96 = .ok (.lstore_n 2, 1) := by decide +kernel
theorem dL_all_97 : decode cL_all 97 = .ok (.iinc 4 1, 3) := by decide +kernel
theorem dL_all_100 : decode cL_all 100 = .ok (.goto (-51), 3) := by decide +kernel
theorem dL_all_103 : decode cL_all 103 = .ok (.iconst 0, 1) := by decide +kernel
theorem dL_all_104 : decode cL_all 104 = .ok (.istore 4, 2) := by decide +kernel
theorem dL_all_106 : decode cL_all 106 = .ok (.iload 4, 2) := by decide +kernel
theorem dL_all_108 : decode cL_all 108 = .ok (.aload_n 1, 1) := by decide +kernel
theorem dL_all_109 : decode cL_all 109 = .ok (.iconst 1, 1) := by decide +kernel
theorem dL_all_110 : decode cL_all 110 = .ok (.iaload, 1) := by decide +kernel
theorem dL_all_111 : decode cL_all 111 = .ok (.if_icmp .ge 35, 3) := by decide +kernel
theorem dL_all_114 : decode cL_all 114 = .ok (.ldc2_w 126, 3) := by decide +kernel
theorem dL_all_117 : decode cL_all 117 = .ok (.lload_n 2, 1) := by decide +kernel
theorem dL_all_118 : decode cL_all 118 = .ok (.lmul, 1) := by decide +kernel
theorem dL_all_119 : decode cL_all 119 = .ok (.aload_n 0, 1) := by decide +kernel
theorem dL_all_120 : decode cL_all 120 = .ok (.iload 4, 2) := by decide +kernel
theorem dL_all_122 : decode cL_all 122 = .ok (.invokevirtual 82, 3) := by decide +kernel
theorem dL_all_125 : decode cL_all 125 = .ok (.i2l, 1) := by decide +kernel
theorem dL_all_126 : decode cL_all 126 = .ok (.ladd, 1) := by decide +kernel
theorem dL_all_127 : decode cL_all 127 = .ok (.ldc2_w 106, 3) := by decide +kernel
theorem dL_all_130 : decode cL_all 130 = .ok (.aload_n 0, 1) := by decide +kernel
theorem dL_all_131 : decode cL_all 131 = .ok (.iload 4, 2) := by decide +kernel
theorem dL_all_133 : decode cL_all 133 = .ok (.invokevirtual 79, 3) := by decide +kernel
theorem dL_all_136 : decode cL_all 136 = .ok (.i2l, 1) := by decide +kernel
theorem dL_all_137 : decode cL_all 137 = .ok (.lmul, 1) := by decide +kernel
theorem dL_all_138 : decode cL_all 138 = .ok (.ladd, 1) := by decide +kernel
theorem dL_all_139 : decode cL_all 139 = .ok (.lstore_n 2, 1) := by decide +kernel
theorem dL_all_140 : decode cL_all 140 = .ok (.iinc 4 1, 3) := by decide +kernel
theorem dL_all_143 : decode cL_all 143 = .ok (.goto (-37), 3) := by decide +kernel
theorem dL_all_146 : decode cL_all 146 = .ok (.iconst 0, 1) := by decide +kernel
theorem dL_all_147 : decode cL_all 147 = .ok (.istore 4, 2) := by decide +kernel
theorem dL_all_149 : decode cL_all 149 = .ok (.iload 4, 2) := by decide +kernel
theorem dL_all_151 : decode cL_all 151 = .ok (.aload_n 0, 1) := by decide +kernel
theorem dL_all_152 : decode cL_all 152 = .ok (.invokevirtual 108, 3) := by decide +kernel
theorem dL_all_155 : decode cL_all 155 = .ok (.if_icmp .ge 35, 3) := by decide +kernel
theorem dL_all_158 : decode cL_all 158 = .ok (.ldc2_w 106, 3) := by decide +kernel
theorem dL_all_161 : decode cL_all 161 = .ok (.lload_n 2, 1) := by decide +kernel
theorem dL_all_162 : decode cL_all 162 = .ok (.lmul, 1) := by decide +kernel
theorem dL_all_163 : decode cL_all 163 = .ok (.aload_n 0, 1) := by decide +kernel
theorem dL_all_164 : decode cL_all 164 = .ok (.iload 4, 2) := by decide +kernel
theorem dL_all_166 : decode cL_all 166 = .ok (.invokevirtual 91, 3) := by decide +kernel
theorem dL_all_169 : decode cL_all 169 = .ok (.i2l, 1) := by decide +kernel
theorem dL_all_170 : decode cL_all 170 = .ok (.ladd, 1) := by decide +kernel
theorem dL_all_171 : decode cL_all 171 = .ok (.ldc2_w 128, 3) := by decide +kernel
theorem dL_all_174 : decode cL_all 174 = .ok (.aload_n 0, 1) := by decide +kernel
theorem dL_all_175 : decode cL_all 175 = .ok (.iload 4, 2) := by decide +kernel
theorem dL_all_177 : decode cL_all 177 = .ok (.invokevirtual 88, 3) := by decide +kernel
theorem dL_all_180 : decode cL_all 180 = .ok (.i2l, 1) := by decide +kernel
theorem dL_all_181 : decode cL_all 181 = .ok (.lmul, 1) := by decide +kernel
theorem dL_all_182 : decode cL_all 182 = .ok (.ladd, 1) := by decide +kernel
theorem dL_all_183 : decode cL_all 183 = .ok (.lstore_n 2, 1) := by decide +kernel
theorem dL_all_184 : decode cL_all 184 = .ok (.iinc 4 1, 3) := by decide +kernel
theorem dL_all_187 : decode cL_all 187 = .ok (.goto (-38), 3) := by decide +kernel
theorem dL_all_190 : decode cL_all 190 = .ok (.lload_n 2, 1) := by decide +kernel
theorem dL_all_191 : decode cL_all 191 = .ok (.lreturn, 1) := by decide +kernel
def f_L_all_b149 (F Z : Nat) : Nat → St → Int64 → Int32 → Option (Int64 × St)
  | 0, _, _, _ => none
  | n + 1, s, l2, l4 =>
    (f_P_alarms F s).bind fun x14 => (lt (kb s x14.2 0) fun s15 => (if x14.1 ≤ l4 then
      (some (l2, s15))
    else
      ((qc Z s15 (fun z => f_P_woken F z s15 l4)).bind fun x16 => ((an x16.1).bind fun v17 => ((qc Z x16.2 (fun z => f_P_alarm F z x16.2 l4)).bind fun x18 => ((an x18.1).bind fun v19 => (f_L_all_b149 F Z n x18.2 ((((31 : Int64) * l2) + v17.toInt64) + ((7 : Int64) * v19.toInt64)) (l4 + 1))))))))
def f_L_all_b106 (F Z : Nat) : Nat → St → Int64 → Int32 → Option (Int64 × St)
  | 0, _, _, _ => none
  | n + 1, s, l2, l4 =>
    (ix 4 1).bind fun j13 => (if (gA s 39 j13) ≤ l4 then
      (f_L_all_b149 F Z F s l2 0)
    else
      ((qc Z s (fun z => f_P_rises F z s l4)).bind fun x20 => ((an x20.1).bind fun v21 => ((qc Z x20.2 (fun z => f_P_inWindow F z x20.2 l4)).bind fun x22 => ((an x22.1).bind fun v23 => (lt ((((1000003 : Int64) * l2) + v21.toInt64) + ((31 : Int64) * v23.toInt64) : Int64) fun x24 => (f_L_all_b106 F Z n x22.2 x24 (l4 + 1))))))))
def f_L_all_b49 (F Z : Nat) : Nat → St → Int64 → Int32 → Option (Int64 × St)
  | 0, _, _, _ => none
  | n + 1, s, l2, l4 =>
    (ix 4 0).bind fun j12 => (if (gA s 39 j12) ≤ l4 then
      (f_L_all_b106 F Z F s l2 0)
    else
      ((qc Z s (fun z => f_P_nights F z s l4)).bind fun x25 => ((an x25.1).bind fun v26 => ((qc Z x25.2 (fun z => f_P_owes F z x25.2 l4 0)).bind fun x27 => ((an x27.1).bind fun v28 => ((qc Z x27.2 (fun z => f_P_owes F z x27.2 0 l4)).bind fun x29 => ((an x29.1).bind fun v30 => (lt (((((1000003 : Int64) * l2) + v26.toInt64) + ((31 : Int64) * v28.toInt64)) + ((961 : Int64) * v30.toInt64) : Int64) fun x31 => (f_L_all_b49 F Z n x29.2 x31 (l4 + 1))))))))))
def f_L_all (F Z : Nat) (s : St)  : Option (Int64 × St) :=
  (f_P_now F s).bind fun x1 => (lt (kb s x1.2 0) fun s2 => ((f_P_alarms F s2).bind fun x3 => (lt (kb s2 x3.2 0) fun s4 => ((f_P_waiting F s4).bind fun x5 => (lt (kb s4 x5.2 0) fun s6 => ((qd Z s6 (fun z => f_P_errorAt F z s6)).bind fun x7 => ((an x7.1).bind fun v8 => ((f_P_next F x7.2).bind fun x9 => (lt (kb x7.2 x9.2 0) fun s10 => (lt ((((x1.1.toInt64 + ((31 : Int64) * x3.1.toInt64)) + ((961 : Int64) * x5.1.toInt64)) + ((29791 : Int64) * v8.toInt64)) + ((65537 : Int64) * x9.1.toInt64) : Int64) fun x11 => (f_L_all_b49 F Z F s10 x11 0)))))))))))
set_option maxHeartbeats 1000000 in
theorem c_f_L_all_b149 {F Z : Nat} {c0 : Nat} {Γ : Ga} {D : DD} {B : Nat} {r : Int64} {s' : St} (X : Cx Γ RL cL_all 5 D B (RMg Z c0 803 16470)) (M : RLe (RMg Z c0 803 16470) Z 0 0 c0 803 16470) (Y : Xy Γ B) (hr : (Gme Γ).sig.returnType = (some .long)) : ∀ (n : Nat) {s : St} {l2 : Int64} {l4 : Int32}, Hc c0 Z s → f_L_all_b149 F Z n s l2 l4 = some (r, s') → V Γ D B true 5 (QX Γ D B true s' (.inl (some (.long r))) (64 * (ct s' - c0)) (768 * (ct s' - c0))) (kg 0 c0 s) (ng 0 c0 s) s 149 [(0, .ref (B + 0)), (2, .long l2), (4, .int l4)] [] := by
  intro n
  induction n with
  | zero => intro s l2 l4 hc hf; rw [f_L_all_b149] at hf; cases hf
  | succ n ih =>
    intro s l2 l4 hc hf
    rw [f_L_all_b149] at hf
    refine r_iload (pc := 149) X dL_all_149 2 rfl ?_
    refine r_aload_n (x := some 0) (pc := 151) X dL_all_151 0 rfl ?_
    refine bnd hf (fun x14 h14 hf => ?_)
    refine y_callVi (As := []) (st := [.int l4]) (pc := 152) X M hc (c_f_P_alarms h14) rfl w_428 w_429 w_430 w_36 w_431 hdV_X10_alarms (Rc.s rfl ce_0) (by decide) (Nat.le_of_ble_eq_true rfl) dL_all_152 rfl hf (fun s15 hc hf => ?_)
    refine b_icmp_ge (tgt := 190) (pc := 155) X dL_all_155 (by decide) hf (fun hf => ?_) (fun hf => ?_)
    · refine r_lload_n (pc := 190) X dL_all_190 1 rfl ?_
      exact y_lret (pc := 191) X hr hf dL_all_191
    · refine r_ldc2 (v := 31) (pc := 158) X w_1025 dL_all_158 ?_
      refine r_lload_n (pc := 161) X dL_all_161 1 rfl ?_
      refine r_lmul (pc := 162) X dL_all_162 ?_
      refine r_aload_n (x := some 0) (pc := 163) X dL_all_163 0 rfl ?_
      refine r_iload (pc := 164) X dL_all_164 2 rfl ?_
      refine bnd hf (fun x16 h16 hf => ?_)
      refine bnd hf (fun v17 h16v hf => ?_)
      refine y_callXVi (As := [.int l4]) (st := [.long ((31 : Int64) * l2)]) (pc := 166) X M Y hc (qc_run (ou := ouI) hc.2 (fun z x h => c_f_P_woken h) h16) rfl w_838 w_839 w_840 w_36 w_841 hdV_X10_woken (Rc.s rfl ce_0) (by decide) (Nat.le_of_ble_eq_true rfl) dL_all_166 rfl h16v (fun hc => ?_)
      refine r_i2l (pc := 169) X dL_all_169 ?_
      refine r_ladd (pc := 170) X dL_all_170 ?_
      refine r_ldc2 (v := 7) (pc := 171) X w_1030 dL_all_171 ?_
      refine r_aload_n (x := some 0) (pc := 174) X dL_all_174 0 rfl ?_
      refine r_iload (pc := 175) X dL_all_175 2 rfl ?_
      refine bnd hf (fun x18 h18 hf => ?_)
      refine bnd hf (fun v19 h18v hf => ?_)
      refine y_callXVi (As := [.int l4]) (st := [.long 7, .long (((31 : Int64) * l2) + v17.toInt64)]) (pc := 177) X M Y hc (qc_run (ou := ouI) hc.2 (fun z x h => c_f_P_alarm h) h18) rfl w_834 w_835 w_836 w_36 w_837 hdV_X10_alarm (Rc.s rfl ce_0) (by decide) (Nat.le_of_ble_eq_true rfl) dL_all_177 rfl h18v (fun hc => ?_)
      refine r_i2l (pc := 180) X dL_all_180 ?_
      refine r_lmul (pc := 181) X dL_all_181 ?_
      refine r_ladd (pc := 182) X dL_all_182 ?_
      refine r_lstore_n (pc := 183) (lv' := [(0, .ref (B + 0)), (2, .long ((((31 : Int64) * l2) + v17.toInt64) + ((7 : Int64) * v19.toInt64))), (4, .int l4)]) X dL_all_183 (by decide) [1, 0, 2] rfl ?_
      refine r_iinc (v := l4 + 1) (lv' := [(0, .ref (B + 0)), (2, .long ((((31 : Int64) * l2) + v17.toInt64) + ((7 : Int64) * v19.toInt64))), (4, .int (l4 + 1))]) (pc := 184) X dL_all_184 2 rfl rfl (by decide) [1, 2, 0] rfl ?_
      refine r_goto (tgt := 149) (pc := 187) X dL_all_187 (by decide) ?_
      exact ih hc hf
set_option maxHeartbeats 1000000 in
theorem c_f_L_all_b106 {F Z : Nat} {c0 : Nat} {Γ : Ga} {D : DD} {B : Nat} {r : Int64} {s' : St} (X : Cx Γ RL cL_all 5 D B (RMg Z c0 803 16470)) (M : RLe (RMg Z c0 803 16470) Z 0 0 c0 803 16470) (Y : Xy Γ B) (hr : (Gme Γ).sig.returnType = (some .long)) : ∀ (n : Nat) {s : St} {l2 : Int64} {l4 : Int32}, Hc c0 Z s → f_L_all_b106 F Z n s l2 l4 = some (r, s') → V Γ D B true 5 (QX Γ D B true s' (.inl (some (.long r))) (64 * (ct s' - c0)) (768 * (ct s' - c0))) (kg 0 c0 s) (ng 0 c0 s) s 106 [(0, .ref (B + 0)), (1, .ref (B + 39)), (2, .long l2), (4, .int l4)] [] := by
  intro n
  induction n with
  | zero => intro s l2 l4 hc hf; rw [f_L_all_b106] at hf; cases hf
  | succ n ih =>
    intro s l2 l4 hc hf
    rw [f_L_all_b106] at hf
    refine r_iload (pc := 106) X dL_all_106 3 rfl ?_
    refine r_aload_n (x := some 39) (pc := 108) X dL_all_108 1 rfl ?_
    refine r_iconst (v := 1) (pc := 109) X dL_all_109 (by decide) ?_
    refine b_iald (pc := 110) X ce_39 dL_all_110 hf (fun j13 hf => ?_)
    refine b_icmp_ge (tgt := 146) (pc := 111) X dL_all_111 (by decide) hf (fun hf => ?_) (fun hf => ?_)
    · refine r_iconst (v := 0) (pc := 146) X dL_all_146 (by decide) ?_
      refine r_istore (pc := 147) (lv' := [(0, .ref (B + 0)), (2, .long l2), (4, .int 0)]) X dL_all_147 (by decide) [1, 3, 0] rfl ?_
      exact c_f_L_all_b149 X M Y hr _ hc hf
    · refine r_ldc2 (v := 1000003) (pc := 114) X w_1029 dL_all_114 ?_
      refine r_lload_n (pc := 117) X dL_all_117 2 rfl ?_
      refine r_lmul (pc := 118) X dL_all_118 ?_
      refine r_aload_n (x := some 0) (pc := 119) X dL_all_119 0 rfl ?_
      refine r_iload (pc := 120) X dL_all_120 3 rfl ?_
      refine bnd hf (fun x20 h20 hf => ?_)
      refine bnd hf (fun v21 h20v hf => ?_)
      refine y_callXVi (As := [.int l4]) (st := [.long ((1000003 : Int64) * l2)]) (pc := 122) X M Y hc (qc_run (ou := ouI) hc.2 (fun z x h => c_f_P_rises h) h20) rfl w_351 w_352 w_353 w_36 w_354 hdV_X10_rises (Rc.s rfl ce_0) (by decide) (Nat.le_of_ble_eq_true rfl) dL_all_122 rfl h20v (fun hc => ?_)
      refine r_i2l (pc := 125) X dL_all_125 ?_
      refine r_ladd (pc := 126) X dL_all_126 ?_
      refine r_ldc2 (v := 31) (pc := 127) X w_1025 dL_all_127 ?_
      refine r_aload_n (x := some 0) (pc := 130) X dL_all_130 0 rfl ?_
      refine r_iload (pc := 131) X dL_all_131 3 rfl ?_
      refine bnd hf (fun x22 h22 hf => ?_)
      refine bnd hf (fun v23 h22v hf => ?_)
      refine y_callXVi (As := [.int l4]) (st := [.long 31, .long (((1000003 : Int64) * l2) + v21.toInt64)]) (pc := 133) X M Y hc (qc_run (ou := ouI) hc.2 (fun z x h => c_f_P_inWindow h) h22) rfl w_826 w_827 w_828 w_36 w_829 hdV_X10_inWindow (Rc.s rfl ce_0) (by decide) (Nat.le_of_ble_eq_true rfl) dL_all_133 rfl h22v (fun hc => ?_)
      refine r_i2l (pc := 136) X dL_all_136 ?_
      refine r_lmul (pc := 137) X dL_all_137 ?_
      refine r_ladd (pc := 138) X dL_all_138 ?_
      refine topl hf (fun x24 hf => ?_)
      refine r_lstore_n (pc := 139) (lv' := [(0, .ref (B + 0)), (1, .ref (B + 39)), (2, .long x24), (4, .int l4)]) X dL_all_139 (by decide) [1, 2, 0, 3] rfl ?_
      refine r_iinc (v := l4 + 1) (lv' := [(0, .ref (B + 0)), (1, .ref (B + 39)), (2, .long x24), (4, .int (l4 + 1))]) (pc := 140) X dL_all_140 3 rfl rfl (by decide) [1, 2, 3, 0] rfl ?_
      refine r_goto (tgt := 106) (pc := 143) X dL_all_143 (by decide) ?_
      exact ih hc hf
set_option maxHeartbeats 1000000 in
theorem c_f_L_all_b49 {F Z : Nat} {c0 : Nat} {Γ : Ga} {D : DD} {B : Nat} {r : Int64} {s' : St} (X : Cx Γ RL cL_all 5 D B (RMg Z c0 803 16470)) (M : RLe (RMg Z c0 803 16470) Z 0 0 c0 803 16470) (Y : Xy Γ B) (hr : (Gme Γ).sig.returnType = (some .long)) : ∀ (n : Nat) {s : St} {l2 : Int64} {l4 : Int32}, Hc c0 Z s → f_L_all_b49 F Z n s l2 l4 = some (r, s') → V Γ D B true 5 (QX Γ D B true s' (.inl (some (.long r))) (64 * (ct s' - c0)) (768 * (ct s' - c0))) (kg 0 c0 s) (ng 0 c0 s) s 49 [(0, .ref (B + 0)), (1, .ref (B + 39)), (2, .long l2), (4, .int l4)] [] := by
  intro n
  induction n with
  | zero => intro s l2 l4 hc hf; rw [f_L_all_b49] at hf; cases hf
  | succ n ih =>
    intro s l2 l4 hc hf
    rw [f_L_all_b49] at hf
    refine r_iload (pc := 49) X dL_all_49 3 rfl ?_
    refine r_aload_n (x := some 39) (pc := 51) X dL_all_51 1 rfl ?_
    refine r_iconst (v := 0) (pc := 52) X dL_all_52 (by decide) ?_
    refine b_iald (pc := 53) X ce_39 dL_all_53 hf (fun j12 hf => ?_)
    refine b_icmp_ge (tgt := 103) (pc := 54) X dL_all_54 (by decide) hf (fun hf => ?_) (fun hf => ?_)
    · refine r_iconst (v := 0) (pc := 103) X dL_all_103 (by decide) ?_
      refine r_istore (pc := 104) (lv' := [(0, .ref (B + 0)), (1, .ref (B + 39)), (2, .long l2), (4, .int 0)]) X dL_all_104 (by decide) [1, 2, 3, 0] rfl ?_
      exact c_f_L_all_b106 X M Y hr _ hc hf
    · refine r_ldc2 (v := 1000003) (pc := 57) X w_1029 dL_all_57 ?_
      refine r_lload_n (pc := 60) X dL_all_60 2 rfl ?_
      refine r_lmul (pc := 61) X dL_all_61 ?_
      refine r_aload_n (x := some 0) (pc := 62) X dL_all_62 0 rfl ?_
      refine r_iload (pc := 63) X dL_all_63 3 rfl ?_
      refine bnd hf (fun x25 h25 hf => ?_)
      refine bnd hf (fun v26 h25v hf => ?_)
      refine y_callXVi (As := [.int l4]) (st := [.long ((1000003 : Int64) * l2)]) (pc := 65) X M Y hc (qc_run (ou := ouI) hc.2 (fun z x h => c_f_P_nights h) h25) rfl w_810 w_811 w_812 w_36 w_813 hdV_X10_nights (Rc.s rfl ce_0) (by decide) (Nat.le_of_ble_eq_true rfl) dL_all_65 rfl h25v (fun hc => ?_)
      refine r_i2l (pc := 68) X dL_all_68 ?_
      refine r_ladd (pc := 69) X dL_all_69 ?_
      refine r_ldc2 (v := 31) (pc := 70) X w_1025 dL_all_70 ?_
      refine r_aload_n (x := some 0) (pc := 73) X dL_all_73 0 rfl ?_
      refine r_iload (pc := 74) X dL_all_74 3 rfl ?_
      refine r_iconst (v := 0) (pc := 76) X dL_all_76 (by decide) ?_
      refine bnd hf (fun x27 h27 hf => ?_)
      refine bnd hf (fun v28 h27v hf => ?_)
      refine y_callXVi (As := [.int l4, .int 0]) (st := [.long 31, .long (((1000003 : Int64) * l2) + v26.toInt64)]) (pc := 77) X M Y hc (qc_run (ou := ouI) hc.2 (fun z x h => c_f_P_owes h) h27) rfl w_818 w_819 w_820 w_36 w_821 hdV_X10_owes (Rc.s rfl ce_0) (by decide) (Nat.le_of_ble_eq_true rfl) dL_all_77 rfl h27v (fun hc => ?_)
      refine r_i2l (pc := 80) X dL_all_80 ?_
      refine r_lmul (pc := 81) X dL_all_81 ?_
      refine r_ladd (pc := 82) X dL_all_82 ?_
      refine r_ldc2 (v := 961) (pc := 83) X w_1026 dL_all_83 ?_
      refine r_aload_n (x := some 0) (pc := 86) X dL_all_86 0 rfl ?_
      refine r_iconst (v := 0) (pc := 87) X dL_all_87 (by decide) ?_
      refine r_iload (pc := 88) X dL_all_88 3 rfl ?_
      refine bnd hf (fun x29 h29 hf => ?_)
      refine bnd hf (fun v30 h29v hf => ?_)
      refine y_callXVi (As := [.int 0, .int l4]) (st := [.long 961, .long ((((1000003 : Int64) * l2) + v26.toInt64) + ((31 : Int64) * v28.toInt64))]) (pc := 90) X M Y hc (qc_run (ou := ouI) hc.2 (fun z x h => c_f_P_owes h) h29) rfl w_818 w_819 w_820 w_36 w_821 hdV_X10_owes (Rc.s rfl ce_0) (by decide) (Nat.le_of_ble_eq_true rfl) dL_all_90 rfl h29v (fun hc => ?_)
      refine r_i2l (pc := 93) X dL_all_93 ?_
      refine r_lmul (pc := 94) X dL_all_94 ?_
      refine r_ladd (pc := 95) X dL_all_95 ?_
      refine topl hf (fun x31 hf => ?_)
      refine r_lstore_n (pc := 96) (lv' := [(0, .ref (B + 0)), (1, .ref (B + 39)), (2, .long x31), (4, .int l4)]) X dL_all_96 (by decide) [1, 2, 0, 3] rfl ?_
      refine r_iinc (v := l4 + 1) (lv' := [(0, .ref (B + 0)), (1, .ref (B + 39)), (2, .long x31), (4, .int (l4 + 1))]) (pc := 97) X dL_all_97 3 rfl rfl (by decide) [1, 2, 3, 0] rfl ?_
      refine r_goto (tgt := 49) (pc := 100) X dL_all_100 (by decide) ?_
      exact ih hc hf
set_option maxHeartbeats 1000000 in
theorem c_f_L_all {F Z : Nat} {s : St}  {r : Int64} {s' : St} (hf : f_L_all F Z s  = some (r, s')) (hz : ct s ≤ Z) : CX true yL_all (Cond.code yL_all cL_all 5 (some .long)) 803 16470 (64 * (Z - ct s)) (768 * (Z - ct s)) (fun B => [.ref (B + 0), .ref (B + 39)]) s (fun B => .inl (some (.long r))) s' (64 * (ct s' - ct s)) (768 * (ct s' - ct s)) := by
  refine CX.ofL (fun B => [(0, .ref (B + 0)), (1, .ref (B + 39))]) (by decide +kernel) (fun _ => rfl) (fun _ => (by simp [lg_sl, rfB_cat, catI, catL, catR])) (fun Γ D B X Y hr => ?_)
  have X : Cx Γ RL cL_all 5 D B (RMg Z (ct s) 803 16470) := X
  have M : RLe (RMg Z (ct s) 803 16470) Z 0 0 (ct s) 803 16470 := RLe.rf
  have hc : Hc (ct s) Z s := ⟨Nat.le_refl _, hz⟩
  unfold f_L_all at hf
  refine r_aload_n (x := some 0) (pc := 0) X dL_all_0 0 rfl ?_
  refine bnd hf (fun x1 h1 hf => ?_)
  refine y_callVi (As := []) (st := []) (pc := 1) X M hc (c_f_P_now h1) rfl w_317 w_318 w_319 w_36 w_320 hdV_X10_now (Rc.s rfl ce_0) (by decide) (Nat.le_of_ble_eq_true rfl) dL_all_1 rfl hf (fun s2 hc hf => ?_)
  refine r_i2l (pc := 4) X dL_all_4 ?_
  refine r_ldc2 (v := 31) (pc := 5) X w_1025 dL_all_5 ?_
  refine r_aload_n (x := some 0) (pc := 8) X dL_all_8 0 rfl ?_
  refine bnd hf (fun x3 h3 hf => ?_)
  refine y_callVi (As := []) (st := [.long 31, .long x1.1.toInt64]) (pc := 9) X M hc (c_f_P_alarms h3) rfl w_428 w_429 w_430 w_36 w_431 hdV_X10_alarms (Rc.s rfl ce_0) (by decide) (Nat.le_of_ble_eq_true rfl) dL_all_9 rfl hf (fun s4 hc hf => ?_)
  refine r_i2l (pc := 12) X dL_all_12 ?_
  refine r_lmul (pc := 13) X dL_all_13 ?_
  refine r_ladd (pc := 14) X dL_all_14 ?_
  refine r_ldc2 (v := 961) (pc := 15) X w_1026 dL_all_15 ?_
  refine r_aload_n (x := some 0) (pc := 18) X dL_all_18 0 rfl ?_
  refine bnd hf (fun x5 h5 hf => ?_)
  refine y_callVi (As := []) (st := [.long 961, .long (x1.1.toInt64 + ((31 : Int64) * x3.1.toInt64))]) (pc := 19) X M hc (c_f_P_waiting h5) rfl w_1009 w_1010 w_1011 w_36 w_1012 hdV_X10_waiting (Rc.s rfl ce_0) (by decide) (Nat.le_of_ble_eq_true rfl) dL_all_19 rfl hf (fun s6 hc hf => ?_)
  refine r_i2l (pc := 22) X dL_all_22 ?_
  refine r_lmul (pc := 23) X dL_all_23 ?_
  refine r_ladd (pc := 24) X dL_all_24 ?_
  refine r_ldc2 (v := 29791) (pc := 25) X w_1027 dL_all_25 ?_
  refine r_aload_n (x := some 0) (pc := 28) X dL_all_28 0 rfl ?_
  refine bnd hf (fun x7 h7 hf => ?_)
  refine bnd hf (fun v8 h7v hf => ?_)
  refine y_callXVi (As := []) (st := [.long 29791, .long ((x1.1.toInt64 + ((31 : Int64) * x3.1.toInt64)) + ((961 : Int64) * x5.1.toInt64))]) (pc := 29) X M Y hc (qd_run (ou := ouI) (fun z x h => c_f_P_errorAt h) h7) rfl w_876 w_877 w_878 w_36 w_879 hdV_X10_errorAt (Rc.s rfl ce_0) (by decide) (Nat.le_of_ble_eq_true rfl) dL_all_29 rfl h7v (fun hc => ?_)
  refine r_i2l (pc := 32) X dL_all_32 ?_
  refine r_lmul (pc := 33) X dL_all_33 ?_
  refine r_ladd (pc := 34) X dL_all_34 ?_
  refine r_ldc2 (v := 65537) (pc := 35) X w_1028 dL_all_35 ?_
  refine r_aload_n (x := some 0) (pc := 38) X dL_all_38 0 rfl ?_
  refine bnd hf (fun x9 h9 hf => ?_)
  refine y_callVi (As := []) (st := [.long 65537, .long (((x1.1.toInt64 + ((31 : Int64) * x3.1.toInt64)) + ((961 : Int64) * x5.1.toInt64)) + ((29791 : Int64) * v8.toInt64))]) (pc := 39) X M hc (c_f_P_next h9) rfl w_321 w_322 w_323 w_36 w_324 hdV_X10_next (Rc.s rfl ce_0) (by decide) (Nat.le_of_ble_eq_true rfl) dL_all_39 rfl hf (fun s10 hc hf => ?_)
  refine r_i2l (pc := 42) X dL_all_42 ?_
  refine r_lmul (pc := 43) X dL_all_43 ?_
  refine r_ladd (pc := 44) X dL_all_44 ?_
  refine topl hf (fun x11 hf => ?_)
  refine r_lstore_n (pc := 45) (lv' := [(0, .ref (B + 0)), (1, .ref (B + 39)), (2, .long x11)]) X dL_all_45 (by decide) [1, 2, 0] rfl ?_
  refine r_iconst (v := 0) (pc := 46) X dL_all_46 (by decide) ?_
  refine r_istore (pc := 47) (lv' := [(0, .ref (B + 0)), (1, .ref (B + 39)), (2, .long x11), (4, .int 0)]) X dL_all_47 (by decide) [1, 2, 3, 0] rfl ?_
  exact c_f_L_all_b49 X M Y hr _ hc hf
/-! f_L_code -/
theorem dL_code_0 : decode cL_code 0 = .ok (.iload_n 0, 1) := by decide +kernel
theorem dL_code_1 : decode cL_code 1 = .ok (.bipush 30, 2) := by decide +kernel
theorem dL_code_3 : decode cL_code 3 = .ok (.irem, 1) := by decide +kernel
theorem dL_code_4 : decode cL_code 4 = .ok (.istore_n 1, 1) := by decide +kernel
theorem dL_code_5 : decode cL_code 5 = .ok (.iload_n 1, 1) := by decide +kernel
theorem dL_code_6 : decode cL_code 6 = .ok (.iconst 4, 1) := by decide +kernel
theorem dL_code_7 : decode cL_code 7 = .ok (.if_icmp .ge 16, 3) := by decide +kernel
theorem dL_code_10 : decode cL_code 10 = .ok (.bipush 48, 2) := by decide +kernel
theorem dL_code_12 : decode cL_code 12 = .ok (.iload_n 0, 1) := by decide +kernel
theorem dL_code_13 : decode cL_code 13 = .ok (.bipush 30, 2) := by decide +kernel
theorem dL_code_15 : decode cL_code 15 = .ok (.idiv, 1) := by decide +kernel
theorem dL_code_16 : decode cL_code 16 = .ok (.bipush 10, 2) := by decide +kernel
theorem dL_code_18 : decode cL_code 18 = .ok (.irem, 1) := by decide +kernel
theorem dL_code_19 : decode cL_code 19 = .ok (.iadd, 1) := by decide +kernel
theorem dL_code_20 : decode cL_code 20 = .ok (.goto 247, 3) := by decide +kernel
theorem dL_code_23 : decode cL_code 23 = .ok (.iload_n 1, 1) := by decide +kernel
theorem dL_code_24 : decode cL_code 24 = .ok (.bipush 6, 2) := by decide +kernel
theorem dL_code_26 : decode cL_code 26 = .ok (.if_icmp .ge 8, 3) := by decide +kernel
theorem dL_code_29 : decode cL_code 29 = .ok (.bipush 40, 2) := by decide +kernel
theorem dL_code_31 : decode cL_code 31 = .ok (.goto 236, 3) := by decide +kernel
theorem dL_code_34 : decode cL_code 34 = .ok (.iload_n 1, 1) := by decide +kernel
theorem dL_code_35 : decode cL_code 35 = .ok (.bipush 8, 2) := by decide +kernel
theorem dL_code_37 : decode cL_code 37 = .ok (.if_icmp .ge 8, 3) := by decide +kernel
theorem dL_code_40 : decode cL_code 40 = .ok (.bipush 41, 2) := by decide +kernel
theorem dL_code_42 : decode cL_code 42 = .ok (.goto 225, 3) := by decide +kernel
theorem dL_code_45 : decode cL_code 45 = .ok (.iload_n 1, 1) := by decide +kernel
theorem dL_code_46 : decode cL_code 46 = .ok (.bipush 8, 2) := by decide +kernel
theorem dL_code_48 : decode cL_code 48 = .ok (.if_icmp .ne 8, 3) := by decide +kernel
theorem dL_code_51 : decode cL_code 51 = .ok (.bipush 43, 2) := by decide +kernel
theorem dL_code_53 : decode cL_code 53 = .ok (.goto 214, 3) := by decide +kernel
theorem dL_code_56 : decode cL_code 56 = .ok (.iload_n 1, 1) := by decide +kernel
theorem dL_code_57 : decode cL_code 57 = .ok (.bipush 9, 2) := by decide +kernel
theorem dL_code_59 : decode cL_code 59 = .ok (.if_icmp .ne 8, 3) := by decide +kernel
theorem dL_code_62 : decode cL_code 62 = .ok (.bipush 45, 2) := by decide +kernel
theorem dL_code_64 : decode cL_code 64 = .ok (.goto 203, 3) := by decide +kernel
theorem dL_code_67 : decode cL_code 67 = .ok (.iload_n 1, 1) := by decide +kernel
theorem dL_code_68 : decode cL_code 68 = .ok (.bipush 10, 2) := by decide +kernel
theorem dL_code_70 : decode cL_code 70 = .ok (.if_icmp .ne 8, 3) := by decide +kernel
theorem dL_code_73 : decode cL_code 73 = .ok (.bipush 42, 2) := by decide +kernel
theorem dL_code_75 : decode cL_code 75 = .ok (.goto 192, 3) := by decide +kernel
theorem dL_code_78 : decode cL_code 78 = .ok (.iload_n 1, 1) := by decide +kernel
theorem dL_code_79 : decode cL_code 79 = .ok (.bipush 11, 2) := by decide +kernel
theorem dL_code_81 : decode cL_code 81 = .ok (.if_icmp .ne 8, 3) := by decide +kernel
theorem dL_code_84 : decode cL_code 84 = .ok (.bipush 47, 2) := by decide +kernel
theorem dL_code_86 : decode cL_code 86 = .ok (.goto 181, 3) := by decide +kernel
theorem dL_code_89 : decode cL_code 89 = .ok (.iload_n 1, 1) := by decide +kernel
theorem dL_code_90 : decode cL_code 90 = .ok (.bipush 12, 2) := by decide +kernel
theorem dL_code_92 : decode cL_code 92 = .ok (.if_icmp .ne 8, 3) := by decide +kernel
theorem dL_code_95 : decode cL_code 95 = .ok (.bipush 60, 2) := by decide +kernel
theorem dL_code_97 : decode cL_code 97 = .ok (.goto 170, 3) := by decide +kernel
theorem dL_code_100 : decode cL_code 100 = .ok (.iload_n 1, 1) := by decide +kernel
theorem dL_code_101 : decode cL_code 101 = .ok (.bipush 13, 2) := by decide +kernel
theorem dL_code_103 : decode cL_code 103 = .ok (.if_icmp .ne 8, 3) := by decide +kernel
theorem dL_code_106 : decode cL_code 106 = .ok (.bipush 62, 2) := by decide +kernel
theorem dL_code_108 : decode cL_code 108 = .ok (.goto 159, 3) := by decide +kernel
theorem dL_code_111 : decode cL_code 111 = .ok (.iload_n 1, 1) := by decide +kernel
theorem dL_code_112 : decode cL_code 112 = .ok (.bipush 14, 2) := by decide +kernel
theorem dL_code_114 : decode cL_code 114 = .ok (.if_icmp .ne 8, 3) := by decide +kernel
theorem dL_code_117 : decode cL_code 117 = .ok (.bipush 61, 2) := by decide +kernel
theorem dL_code_119 : decode cL_code 119 = .ok (.goto 148, 3) := by decide +kernel
theorem dL_code_122 : decode cL_code 122 = .ok (.iload_n 1, 1) := by decide +kernel
theorem dL_code_123 : decode cL_code 123 = .ok (.bipush 17, 2) := by decide +kernel
theorem dL_code_125 : decode cL_code 125 = .ok (.if_icmp .ge 8, 3) := by decide +kernel
theorem dL_code_128 : decode cL_code 128 = .ok (.bipush 110, 2) := by decide +kernel
theorem dL_code_130 : decode cL_code 130 = .ok (.goto 137, 3) := by decide +kernel
theorem dL_code_133 : decode cL_code 133 = .ok (.iload_n 1, 1) := by decide +kernel
theorem dL_code_134 : decode cL_code 134 = .ok (.bipush 17, 2) := by decide +kernel
theorem dL_code_136 : decode cL_code 136 = .ok (.if_icmp .ne 8, 3) := by decide +kernel
theorem dL_code_139 : decode cL_code 139 = .ok (.bipush 115, 2) := by decide +kernel
theorem dL_code_141 : decode cL_code 141 = .ok (.goto 126, 3) := by decide +kernel
theorem dL_code_144 : decode cL_code 144 = .ok (.iload_n 1, 1) := by decide +kernel
theorem dL_code_145 : decode cL_code 145 = .ok (.bipush 18, 2) := by decide +kernel
theorem dL_code_147 : decode cL_code 147 = .ok (.if_icmp .ne 8, 3) := by decide +kernel
theorem dL_code_150 : decode cL_code 150 = .ok (.bipush 109, 2) := by decide +kernel
theorem dL_code_152 : decode cL_code 152 = .ok (.goto 115, 3) := by decide +kernel
theorem dL_code_155 : decode cL_code 155 = .ok (.iload_n 1, 1) := by decide +kernel
theorem dL_code_156 : decode cL_code 156 = .ok (.bipush 19, 2) := by decide +kernel
theorem dL_code_158 : decode cL_code 158 = .ok (.if_icmp .ne 8, 3) := by decide +kernel
theorem dL_code_161 : decode cL_code 161 = .ok (.bipush 120, 2) := by decide +kernel
theorem dL_code_163 : decode cL_code 163 = .ok (.goto 104, 3) := by decide +kernel
theorem dL_code_166 : decode cL_code 166 = .ok (.iload_n 1, 1) := by decide +kernel
theorem dL_code_167 : decode cL_code 167 = .ok (.bipush 20, 2) := by decide +kernel
theorem dL_code_169 : decode cL_code 169 = .ok (.if_icmp .ne 8, 3) := by decide +kernel
theorem dL_code_172 : decode cL_code 172 = .ok (.bipush 100, 2) := by decide +kernel
theorem dL_code_174 : decode cL_code 174 = .ok (.goto 93, 3) := by decide +kernel
theorem dL_code_177 : decode cL_code 177 = .ok (.iload_n 1, 1) := by decide +kernel
theorem dL_code_178 : decode cL_code 178 = .ok (.bipush 21, 2) := by decide +kernel
theorem dL_code_180 : decode cL_code 180 = .ok (.if_icmp .ne 8, 3) := by decide +kernel
theorem dL_code_183 : decode cL_code 183 = .ok (.bipush 116, 2) := by decide +kernel
theorem dL_code_185 : decode cL_code 185 = .ok (.goto 82, 3) := by decide +kernel
theorem dL_code_188 : decode cL_code 188 = .ok (.iload_n 1, 1) := by decide +kernel
theorem dL_code_189 : decode cL_code 189 = .ok (.bipush 22, 2) := by decide +kernel
theorem dL_code_191 : decode cL_code 191 = .ok (.if_icmp .ne 8, 3) := by decide +kernel
theorem dL_code_194 : decode cL_code 194 = .ok (.bipush 58, 2) := by decide +kernel
theorem dL_code_196 : decode cL_code 196 = .ok (.goto 71, 3) := by decide +kernel
theorem dL_code_199 : decode cL_code 199 = .ok (.iload_n 1, 1) := by decide +kernel
theorem dL_code_200 : decode cL_code 200 = .ok (.bipush 23, 2) := by decide +kernel
theorem dL_code_202 : decode cL_code 202 = .ok (.if_icmp .ne 8, 3) := by decide +kernel
theorem dL_code_205 : decode cL_code 205 = .ok (.bipush 112, 2) := by decide +kernel
theorem dL_code_207 : decode cL_code 207 = .ok (.goto 60, 3) := by decide +kernel
theorem dL_code_210 : decode cL_code 210 = .ok (.iload_n 1, 1) := by decide +kernel
theorem dL_code_211 : decode cL_code 211 = .ok (.bipush 24, 2) := by decide +kernel
theorem dL_code_213 : decode cL_code 213 = .ok (.if_icmp .ne 8, 3) := by decide +kernel
theorem dL_code_216 : decode cL_code 216 = .ok (.bipush 108, 2) := by decide +kernel
theorem dL_code_218 : decode cL_code 218 = .ok (.goto 49, 3) := by decide +kernel
theorem dL_code_221 : decode cL_code 221 = .ok (.iload_n 1, 1) := by decide +kernel
theorem dL_code_222 : decode cL_code 222 = .ok (.bipush 25, 2) := by decide +kernel
theorem dL_code_224 : decode cL_code 224 = .ok (.if_icmp .ne 8, 3) := by decide +kernel
theorem dL_code_227 : decode cL_code 227 = .ok (.bipush 118, 2) := by decide +kernel
theorem dL_code_229 : decode cL_code 229 = .ok (.goto 38, 3) := by decide +kernel
theorem dL_code_232 : decode cL_code 232 = .ok (.iload_n 1, 1) := by decide +kernel
theorem dL_code_233 : decode cL_code 233 = .ok (.bipush 26, 2) := by decide +kernel
theorem dL_code_235 : decode cL_code 235 = .ok (.if_icmp .ne 8, 3) := by decide +kernel
theorem dL_code_238 : decode cL_code 238 = .ok (.bipush 104, 2) := by decide +kernel
theorem dL_code_240 : decode cL_code 240 = .ok (.goto 27, 3) := by decide +kernel
theorem dL_code_243 : decode cL_code 243 = .ok (.iload_n 1, 1) := by decide +kernel
theorem dL_code_244 : decode cL_code 244 = .ok (.bipush 27, 2) := by decide +kernel
theorem dL_code_246 : decode cL_code 246 = .ok (.if_icmp .ne 8, 3) := by decide +kernel
theorem dL_code_249 : decode cL_code 249 = .ok (.bipush 33, 2) := by decide +kernel
theorem dL_code_251 : decode cL_code 251 = .ok (.goto 16, 3) := by decide +kernel
theorem dL_code_254 : decode cL_code 254 = .ok (.iload_n 1, 1) := by decide +kernel
theorem dL_code_255 : decode cL_code 255 = .ok (.bipush 28, 2) := by decide +kernel
theorem dL_code_257 : decode cL_code 257 = .ok (.if_icmp .ne 8, 3) := by decide +kernel
theorem dL_code_260 : decode cL_code 260 = .ok (.bipush 38, 2) := by decide +kernel
theorem dL_code_262 : decode cL_code 262 = .ok (.goto 5, 3) := by decide +kernel
theorem dL_code_265 : decode cL_code 265 = .ok (.bipush 124, 2) := by decide +kernel
theorem dL_code_267 : decode cL_code 267 = .ok (.ireturn, 1) := by decide +kernel
def f_L_code (F : Nat) (s : St) (p0 : Int32) : Option (Int32 × St) :=
  if 4 ≤ (p0 - p0 / 30 * 30) then
    (if 6 ≤ (p0 - p0 / 30 * 30) then
      (if 8 ≤ (p0 - p0 / 30 * 30) then
        (if (p0 - p0 / 30 * 30) = 8 then
          (some (43, s))
        else
          (if (p0 - p0 / 30 * 30) = 9 then
            (some (45, s))
          else
            (if (p0 - p0 / 30 * 30) = 10 then
              (some (42, s))
            else
              (if (p0 - p0 / 30 * 30) = 11 then
                (some (47, s))
              else
                (if (p0 - p0 / 30 * 30) = 12 then
                  (some (60, s))
                else
                  (if (p0 - p0 / 30 * 30) = 13 then
                    (some (62, s))
                  else
                    (if (p0 - p0 / 30 * 30) = 14 then
                      (some (61, s))
                    else
                      (if 17 ≤ (p0 - p0 / 30 * 30) then
                        (if (p0 - p0 / 30 * 30) = 17 then
                          (some (115, s))
                        else
                          (if (p0 - p0 / 30 * 30) = 18 then
                            (some (109, s))
                          else
                            (if (p0 - p0 / 30 * 30) = 19 then
                              (some (120, s))
                            else
                              (if (p0 - p0 / 30 * 30) = 20 then
                                (some (100, s))
                              else
                                (if (p0 - p0 / 30 * 30) = 21 then
                                  (some (116, s))
                                else
                                  (if (p0 - p0 / 30 * 30) = 22 then
                                    (some (58, s))
                                  else
                                    (if (p0 - p0 / 30 * 30) = 23 then
                                      (some (112, s))
                                    else
                                      (if (p0 - p0 / 30 * 30) = 24 then
                                        (some (108, s))
                                      else
                                        (if (p0 - p0 / 30 * 30) = 25 then
                                          (some (118, s))
                                        else
                                          (if (p0 - p0 / 30 * 30) = 26 then
                                            (some (104, s))
                                          else
                                            (if (p0 - p0 / 30 * 30) = 27 then
                                              (some (33, s))
                                            else
                                              (if (p0 - p0 / 30 * 30) = 28 then
                                                (some (38, s))
                                              else
                                                (some (124, s))))))))))))))
                      else
                        (some (110, s))))))))))
      else
        (some (41, s)))
    else
      (some (40, s)))
  else
    (some (((48 : Int32) + ((p0 / 30) - (p0 / 30) / 10 * 10)), s))
set_option maxHeartbeats 1000000 in
theorem c_f_L_code {F : Nat} {s : St} {p0 : Int32} {r : Int32} {s' : St} (hf : f_L_code F s p0 = some (r, s')) : CC true yL_code (Cond.code yL_code cL_code 2 (some .int)) (0) (0) (fun B => [.int p0]) s (fun B => (some (.int r))) s' 0 0 := by
  refine CC.of (fun B => [(0, .int p0)]) (by decide +kernel) (fun _ => rfl) (fun _ => (by simp [lg_sl, rfB_cat, catI, catL, catR])) (fun Γ D B X hr hin => ?_)
  have X : Cx Γ RL cL_code 2 D B { frames := 0, cells := 0, slots := 0, locals := 0 } := X
  unfold f_L_code at hf
  refine r_iload_n (pc := 0) X dL_code_0 0 rfl ?_
  refine r_bipush (v := 30) (pc := 1) X dL_code_1 (by decide) ?_
  refine r_irem (pc := 3) X dL_code_3 (by decide) ?_
  refine r_istore_n (pc := 4) (lv' := [(0, .int p0), (1, .int (p0 - p0 / 30 * 30))]) X dL_code_4 (by decide) [1, 0] rfl ?_
  refine r_iload_n (pc := 5) X dL_code_5 1 rfl ?_
  refine r_iconst (v := 4) (pc := 6) X dL_code_6 (by decide) ?_
  refine b_icmp_ge (tgt := 23) (pc := 7) X dL_code_7 (by decide) hf (fun hf => ?_) (fun hf => ?_)
  · refine r_iload_n (pc := 23) X dL_code_23 1 rfl ?_
    refine r_bipush (v := 6) (pc := 24) X dL_code_24 (by decide) ?_
    refine b_icmp_ge (tgt := 34) (pc := 26) X dL_code_26 (by decide) hf (fun hf => ?_) (fun hf => ?_)
    · refine r_iload_n (pc := 34) X dL_code_34 1 rfl ?_
      refine r_bipush (v := 8) (pc := 35) X dL_code_35 (by decide) ?_
      refine b_icmp_ge (tgt := 45) (pc := 37) X dL_code_37 (by decide) hf (fun hf => ?_) (fun hf => ?_)
      · refine r_iload_n (pc := 45) X dL_code_45 1 rfl ?_
        refine r_bipush (v := 8) (pc := 46) X dL_code_46 (by decide) ?_
        refine b_icmp_ne (tgt := 56) (pc := 48) X dL_code_48 (by decide) hf (fun hf => ?_) (fun hf => ?_)
        · refine r_bipush (v := 43) (pc := 51) X dL_code_51 (by decide) ?_
          refine r_goto (tgt := 267) (pc := 53) X dL_code_53 (by decide) ?_
          exact e_iret (pc := 267) X hr hf (Nat.le_refl _) (Nat.le_refl _) dL_code_267
        · refine r_iload_n (pc := 56) X dL_code_56 1 rfl ?_
          refine r_bipush (v := 9) (pc := 57) X dL_code_57 (by decide) ?_
          refine b_icmp_ne (tgt := 67) (pc := 59) X dL_code_59 (by decide) hf (fun hf => ?_) (fun hf => ?_)
          · refine r_bipush (v := 45) (pc := 62) X dL_code_62 (by decide) ?_
            refine r_goto (tgt := 267) (pc := 64) X dL_code_64 (by decide) ?_
            exact e_iret (pc := 267) X hr hf (Nat.le_refl _) (Nat.le_refl _) dL_code_267
          · refine r_iload_n (pc := 67) X dL_code_67 1 rfl ?_
            refine r_bipush (v := 10) (pc := 68) X dL_code_68 (by decide) ?_
            refine b_icmp_ne (tgt := 78) (pc := 70) X dL_code_70 (by decide) hf (fun hf => ?_) (fun hf => ?_)
            · refine r_bipush (v := 42) (pc := 73) X dL_code_73 (by decide) ?_
              refine r_goto (tgt := 267) (pc := 75) X dL_code_75 (by decide) ?_
              exact e_iret (pc := 267) X hr hf (Nat.le_refl _) (Nat.le_refl _) dL_code_267
            · refine r_iload_n (pc := 78) X dL_code_78 1 rfl ?_
              refine r_bipush (v := 11) (pc := 79) X dL_code_79 (by decide) ?_
              refine b_icmp_ne (tgt := 89) (pc := 81) X dL_code_81 (by decide) hf (fun hf => ?_) (fun hf => ?_)
              · refine r_bipush (v := 47) (pc := 84) X dL_code_84 (by decide) ?_
                refine r_goto (tgt := 267) (pc := 86) X dL_code_86 (by decide) ?_
                exact e_iret (pc := 267) X hr hf (Nat.le_refl _) (Nat.le_refl _) dL_code_267
              · refine r_iload_n (pc := 89) X dL_code_89 1 rfl ?_
                refine r_bipush (v := 12) (pc := 90) X dL_code_90 (by decide) ?_
                refine b_icmp_ne (tgt := 100) (pc := 92) X dL_code_92 (by decide) hf (fun hf => ?_) (fun hf => ?_)
                · refine r_bipush (v := 60) (pc := 95) X dL_code_95 (by decide) ?_
                  refine r_goto (tgt := 267) (pc := 97) X dL_code_97 (by decide) ?_
                  exact e_iret (pc := 267) X hr hf (Nat.le_refl _) (Nat.le_refl _) dL_code_267
                · refine r_iload_n (pc := 100) X dL_code_100 1 rfl ?_
                  refine r_bipush (v := 13) (pc := 101) X dL_code_101 (by decide) ?_
                  refine b_icmp_ne (tgt := 111) (pc := 103) X dL_code_103 (by decide) hf (fun hf => ?_) (fun hf => ?_)
                  · refine r_bipush (v := 62) (pc := 106) X dL_code_106 (by decide) ?_
                    refine r_goto (tgt := 267) (pc := 108) X dL_code_108 (by decide) ?_
                    exact e_iret (pc := 267) X hr hf (Nat.le_refl _) (Nat.le_refl _) dL_code_267
                  · refine r_iload_n (pc := 111) X dL_code_111 1 rfl ?_
                    refine r_bipush (v := 14) (pc := 112) X dL_code_112 (by decide) ?_
                    refine b_icmp_ne (tgt := 122) (pc := 114) X dL_code_114 (by decide) hf (fun hf => ?_) (fun hf => ?_)
                    · refine r_bipush (v := 61) (pc := 117) X dL_code_117 (by decide) ?_
                      refine r_goto (tgt := 267) (pc := 119) X dL_code_119 (by decide) ?_
                      exact e_iret (pc := 267) X hr hf (Nat.le_refl _) (Nat.le_refl _) dL_code_267
                    · refine r_iload_n (pc := 122) X dL_code_122 1 rfl ?_
                      refine r_bipush (v := 17) (pc := 123) X dL_code_123 (by decide) ?_
                      refine b_icmp_ge (tgt := 133) (pc := 125) X dL_code_125 (by decide) hf (fun hf => ?_) (fun hf => ?_)
                      · refine r_iload_n (pc := 133) X dL_code_133 1 rfl ?_
                        refine r_bipush (v := 17) (pc := 134) X dL_code_134 (by decide) ?_
                        refine b_icmp_ne (tgt := 144) (pc := 136) X dL_code_136 (by decide) hf (fun hf => ?_) (fun hf => ?_)
                        · refine r_bipush (v := 115) (pc := 139) X dL_code_139 (by decide) ?_
                          refine r_goto (tgt := 267) (pc := 141) X dL_code_141 (by decide) ?_
                          exact e_iret (pc := 267) X hr hf (Nat.le_refl _) (Nat.le_refl _) dL_code_267
                        · refine r_iload_n (pc := 144) X dL_code_144 1 rfl ?_
                          refine r_bipush (v := 18) (pc := 145) X dL_code_145 (by decide) ?_
                          refine b_icmp_ne (tgt := 155) (pc := 147) X dL_code_147 (by decide) hf (fun hf => ?_) (fun hf => ?_)
                          · refine r_bipush (v := 109) (pc := 150) X dL_code_150 (by decide) ?_
                            refine r_goto (tgt := 267) (pc := 152) X dL_code_152 (by decide) ?_
                            exact e_iret (pc := 267) X hr hf (Nat.le_refl _) (Nat.le_refl _) dL_code_267
                          · refine r_iload_n (pc := 155) X dL_code_155 1 rfl ?_
                            refine r_bipush (v := 19) (pc := 156) X dL_code_156 (by decide) ?_
                            refine b_icmp_ne (tgt := 166) (pc := 158) X dL_code_158 (by decide) hf (fun hf => ?_) (fun hf => ?_)
                            · refine r_bipush (v := 120) (pc := 161) X dL_code_161 (by decide) ?_
                              refine r_goto (tgt := 267) (pc := 163) X dL_code_163 (by decide) ?_
                              exact e_iret (pc := 267) X hr hf (Nat.le_refl _) (Nat.le_refl _) dL_code_267
                            · refine r_iload_n (pc := 166) X dL_code_166 1 rfl ?_
                              refine r_bipush (v := 20) (pc := 167) X dL_code_167 (by decide) ?_
                              refine b_icmp_ne (tgt := 177) (pc := 169) X dL_code_169 (by decide) hf (fun hf => ?_) (fun hf => ?_)
                              · refine r_bipush (v := 100) (pc := 172) X dL_code_172 (by decide) ?_
                                refine r_goto (tgt := 267) (pc := 174) X dL_code_174 (by decide) ?_
                                exact e_iret (pc := 267) X hr hf (Nat.le_refl _) (Nat.le_refl _) dL_code_267
                              · refine r_iload_n (pc := 177) X dL_code_177 1 rfl ?_
                                refine r_bipush (v := 21) (pc := 178) X dL_code_178 (by decide) ?_
                                refine b_icmp_ne (tgt := 188) (pc := 180) X dL_code_180 (by decide) hf (fun hf => ?_) (fun hf => ?_)
                                · refine r_bipush (v := 116) (pc := 183) X dL_code_183 (by decide) ?_
                                  refine r_goto (tgt := 267) (pc := 185) X dL_code_185 (by decide) ?_
                                  exact e_iret (pc := 267) X hr hf (Nat.le_refl _) (Nat.le_refl _) dL_code_267
                                · refine r_iload_n (pc := 188) X dL_code_188 1 rfl ?_
                                  refine r_bipush (v := 22) (pc := 189) X dL_code_189 (by decide) ?_
                                  refine b_icmp_ne (tgt := 199) (pc := 191) X dL_code_191 (by decide) hf (fun hf => ?_) (fun hf => ?_)
                                  · refine r_bipush (v := 58) (pc := 194) X dL_code_194 (by decide) ?_
                                    refine r_goto (tgt := 267) (pc := 196) X dL_code_196 (by decide) ?_
                                    exact e_iret (pc := 267) X hr hf (Nat.le_refl _) (Nat.le_refl _) dL_code_267
                                  · refine r_iload_n (pc := 199) X dL_code_199 1 rfl ?_
                                    refine r_bipush (v := 23) (pc := 200) X dL_code_200 (by decide) ?_
                                    refine b_icmp_ne (tgt := 210) (pc := 202) X dL_code_202 (by decide) hf (fun hf => ?_) (fun hf => ?_)
                                    · refine r_bipush (v := 112) (pc := 205) X dL_code_205 (by decide) ?_
                                      refine r_goto (tgt := 267) (pc := 207) X dL_code_207 (by decide) ?_
                                      exact e_iret (pc := 267) X hr hf (Nat.le_refl _) (Nat.le_refl _) dL_code_267
                                    · refine r_iload_n (pc := 210) X dL_code_210 1 rfl ?_
                                      refine r_bipush (v := 24) (pc := 211) X dL_code_211 (by decide) ?_
                                      refine b_icmp_ne (tgt := 221) (pc := 213) X dL_code_213 (by decide) hf (fun hf => ?_) (fun hf => ?_)
                                      · refine r_bipush (v := 108) (pc := 216) X dL_code_216 (by decide) ?_
                                        refine r_goto (tgt := 267) (pc := 218) X dL_code_218 (by decide) ?_
                                        exact e_iret (pc := 267) X hr hf (Nat.le_refl _) (Nat.le_refl _) dL_code_267
                                      · refine r_iload_n (pc := 221) X dL_code_221 1 rfl ?_
                                        refine r_bipush (v := 25) (pc := 222) X dL_code_222 (by decide) ?_
                                        refine b_icmp_ne (tgt := 232) (pc := 224) X dL_code_224 (by decide) hf (fun hf => ?_) (fun hf => ?_)
                                        · refine r_bipush (v := 118) (pc := 227) X dL_code_227 (by decide) ?_
                                          refine r_goto (tgt := 267) (pc := 229) X dL_code_229 (by decide) ?_
                                          exact e_iret (pc := 267) X hr hf (Nat.le_refl _) (Nat.le_refl _) dL_code_267
                                        · refine r_iload_n (pc := 232) X dL_code_232 1 rfl ?_
                                          refine r_bipush (v := 26) (pc := 233) X dL_code_233 (by decide) ?_
                                          refine b_icmp_ne (tgt := 243) (pc := 235) X dL_code_235 (by decide) hf (fun hf => ?_) (fun hf => ?_)
                                          · refine r_bipush (v := 104) (pc := 238) X dL_code_238 (by decide) ?_
                                            refine r_goto (tgt := 267) (pc := 240) X dL_code_240 (by decide) ?_
                                            exact e_iret (pc := 267) X hr hf (Nat.le_refl _) (Nat.le_refl _) dL_code_267
                                          · refine r_iload_n (pc := 243) X dL_code_243 1 rfl ?_
                                            refine r_bipush (v := 27) (pc := 244) X dL_code_244 (by decide) ?_
                                            refine b_icmp_ne (tgt := 254) (pc := 246) X dL_code_246 (by decide) hf (fun hf => ?_) (fun hf => ?_)
                                            · refine r_bipush (v := 33) (pc := 249) X dL_code_249 (by decide) ?_
                                              refine r_goto (tgt := 267) (pc := 251) X dL_code_251 (by decide) ?_
                                              exact e_iret (pc := 267) X hr hf (Nat.le_refl _) (Nat.le_refl _) dL_code_267
                                            · refine r_iload_n (pc := 254) X dL_code_254 1 rfl ?_
                                              refine r_bipush (v := 28) (pc := 255) X dL_code_255 (by decide) ?_
                                              refine b_icmp_ne (tgt := 265) (pc := 257) X dL_code_257 (by decide) hf (fun hf => ?_) (fun hf => ?_)
                                              · refine r_bipush (v := 38) (pc := 260) X dL_code_260 (by decide) ?_
                                                refine r_goto (tgt := 267) (pc := 262) X dL_code_262 (by decide) ?_
                                                exact e_iret (pc := 267) X hr hf (Nat.le_refl _) (Nat.le_refl _) dL_code_267
                                              · refine r_bipush (v := 124) (pc := 265) X dL_code_265 (by decide) ?_
                                                exact e_iret (pc := 267) X hr hf (Nat.le_refl _) (Nat.le_refl _) dL_code_267
                      · refine r_bipush (v := 110) (pc := 128) X dL_code_128 (by decide) ?_
                        refine r_goto (tgt := 267) (pc := 130) X dL_code_130 (by decide) ?_
                        exact e_iret (pc := 267) X hr hf (Nat.le_refl _) (Nat.le_refl _) dL_code_267
      · refine r_bipush (v := 41) (pc := 40) X dL_code_40 (by decide) ?_
        refine r_goto (tgt := 267) (pc := 42) X dL_code_42 (by decide) ?_
        exact e_iret (pc := 267) X hr hf (Nat.le_refl _) (Nat.le_refl _) dL_code_267
    · refine r_bipush (v := 40) (pc := 29) X dL_code_29 (by decide) ?_
      refine r_goto (tgt := 267) (pc := 31) X dL_code_31 (by decide) ?_
      exact e_iret (pc := 267) X hr hf (Nat.le_refl _) (Nat.le_refl _) dL_code_267
  · refine r_bipush (v := 48) (pc := 10) X dL_code_10 (by decide) ?_
    refine r_iload_n (pc := 12) X dL_code_12 0 rfl ?_
    refine r_bipush (v := 30) (pc := 13) X dL_code_13 (by decide) ?_
    refine r_idiv (pc := 15) X dL_code_15 (by decide) ?_
    refine r_bipush (v := 10) (pc := 16) X dL_code_16 (by decide) ?_
    refine r_irem (pc := 18) X dL_code_18 (by decide) ?_
    refine r_iadd (pc := 19) X dL_code_19 ?_
    refine r_goto (tgt := 267) (pc := 20) X dL_code_20 (by decide) ?_
    exact e_iret (pc := 267) X hr hf (Nat.le_refl _) (Nat.le_refl _) dL_code_267
/-! f_L_typed -/
theorem dL_typed_0 : decode cL_typed 0 = .ok (.aload_n 0, 1) := by decide +kernel
theorem dL_typed_1 : decode cL_typed 1 = .ok (.invokevirtual 130, 3) := by decide +kernel
theorem dL_typed_4 : decode cL_typed 4 = .ok (.ifCond .lt 7, 3) := by decide +kernel
theorem dL_typed_7 : decode cL_typed 7 = .ok (.iconst 1, 1) := by decide +kernel
theorem dL_typed_8 : decode cL_typed 8 = .ok (.goto 4, 3) := by decide +kernel
theorem dL_typed_11 : decode cL_typed 11 = .ok (.iconst 0, 1) := by decide +kernel
theorem dL_typed_12 : decode cL_typed 12 = .ok (.istore_n 3, 1) := by decide +kernel
theorem dL_typed_13 : decode cL_typed 13 = .ok (.iconst 0, 1) := by decide +kernel
theorem dL_typed_14 : decode cL_typed 14 = .ok (.istore 4, 2) := by decide +kernel
theorem dL_typed_16 : decode cL_typed 16 = .ok (.iload 4, 2) := by decide +kernel
theorem dL_typed_18 : decode cL_typed 18 = .ok (.iload_n 2, 1) := by decide +kernel
theorem dL_typed_19 : decode cL_typed 19 = .ok (.if_icmp .ge 38, 3) := by decide +kernel
theorem dL_typed_22 : decode cL_typed 22 = .ok (.iload_n 3, 1) := by decide +kernel
theorem dL_typed_23 : decode cL_typed 23 = .ok (.ifCond .eq 26, 3) := by decide +kernel
theorem dL_typed_26 : decode cL_typed 26 = .ok (.aload_n 0, 1) := by decide +kernel
theorem dL_typed_27 : decode cL_typed 27 = .ok (.iconst 0, 1) := by decide +kernel
theorem dL_typed_28 : decode cL_typed 28 = .ok (.aload_n 1, 1) := by decide +kernel
theorem dL_typed_29 : decode cL_typed 29 = .ok (.iload 4, 2) := by decide +kernel
theorem dL_typed_31 : decode cL_typed 31 = .ok (.iaload, 1) := by decide +kernel
theorem dL_typed_32 : decode cL_typed 32 = .ok (.iconst 0, 1) := by decide +kernel
theorem dL_typed_33 : decode cL_typed 33 = .ok (.iconst 0, 1) := by decide +kernel
theorem dL_typed_34 : decode cL_typed 34 = .ok (.iconst 0, 1) := by decide +kernel
theorem dL_typed_35 : decode cL_typed 35 = .ok (.invokestatic 133, 3) := by decide +kernel
theorem dL_typed_38 : decode cL_typed 38 = .ok (.iload 4, 2) := by decide +kernel
theorem dL_typed_40 : decode cL_typed 40 = .ok (.iconst 1, 1) := by decide +kernel
theorem dL_typed_41 : decode cL_typed 41 = .ok (.iadd, 1) := by decide +kernel
theorem dL_typed_42 : decode cL_typed 42 = .ok (.if_icmp .ne 7, 3) := by decide +kernel
theorem dL_typed_45 : decode cL_typed 45 = .ok (.iconst 1, 1) := by decide +kernel
theorem dL_typed_46 : decode cL_typed 46 = .ok (.goto 4, 3) := by decide +kernel
theorem dL_typed_49 : decode cL_typed 49 = .ok (.iconst 0, 1) := by decide +kernel
theorem dL_typed_50 : decode cL_typed 50 = .ok (.istore_n 3, 1) := by decide +kernel
theorem dL_typed_51 : decode cL_typed 51 = .ok (.iinc 4 1, 3) := by decide +kernel
theorem dL_typed_54 : decode cL_typed 54 = .ok (.goto (-38), 3) := by decide +kernel
theorem dL_typed_57 : decode cL_typed 57 = .ok (.iload_n 3, 1) := by decide +kernel
theorem dL_typed_58 : decode cL_typed 58 = .ok (.ifCond .eq 10, 3) := by decide +kernel
theorem dL_typed_61 : decode cL_typed 61 = .ok (.aload_n 0, 1) := by decide +kernel
theorem dL_typed_62 : decode cL_typed 62 = .ok (.invokevirtual 118, 3) := by decide +kernel
theorem dL_typed_65 : decode cL_typed 65 = .ok (.goto 5, 3) := by decide +kernel
theorem dL_typed_68 : decode cL_typed 68 = .ok (.bipush (-9), 2) := by decide +kernel
theorem dL_typed_70 : decode cL_typed 70 = .ok (.ireturn, 1) := by decide +kernel
def f_L_typed_b16 (F Z : Nat) : Nat → St → Int32 → Int32 → Int32 → Option (Int32 × St)
  | 0, _, _, _, _ => none
  | n + 1, s, l2, l3, l4 =>
    if l2 ≤ l4 then
      (if l3 = 0 then
        (some ((-9), s))
      else
        ((qd Z s (fun z => f_P_errorAt F z s)).bind fun x3 => ((an x3.1).bind fun v4 => (some (v4, x3.2)))))
    else
      (if l3 = 0 then
        (f_L_typed_b16 F Z n s l2 0 (l4 + 1))
      else
        ((ix 40 l4).bind fun j5 => ((f_L_act F Z s 0 (gA s 43 j5) 0 0 0).bind fun x6 => (if ct s ≤ ct x6.2 ∧ ct x6.2 ≤ Z then (if x6.1 = (l4 + 1) then
          (f_L_typed_b16 F Z n x6.2 l2 1 (l4 + 1))
        else
          (f_L_typed_b16 F Z n x6.2 l2 0 (l4 + 1))) else none))))
def f_L_typed (F Z : Nat) (s : St) (p2 : Int32) : Option (Int32 × St) :=
  (f_P_clearText F s).bind fun x1 => (lt (kb s x1.2 0) fun s2 => (if x1.1 < 0 then
    (f_L_typed_b16 F Z F s2 p2 0 0)
  else
    (f_L_typed_b16 F Z F s2 p2 1 0)))
set_option maxHeartbeats 1000000 in
theorem c_f_L_typed_b16 {F Z : Nat} {c0 : Nat} {Γ : Ga} {D : DD} {B : Nat} {r : Int32} {s' : St} (X : Cx Γ RL cL_typed 5 D B (RMg Z c0 804 16500)) (M : RLe (RMg Z c0 804 16500) Z 0 0 c0 804 16500) (Y : Xy Γ B) (hr : (Gme Γ).sig.returnType = (some .int)) : ∀ (n : Nat) {s : St} {l2 : Int32} {l3 : Int32} {l4 : Int32}, Hc c0 Z s → f_L_typed_b16 F Z n s l2 l3 l4 = some (r, s') → V Γ D B true 5 (QX Γ D B true s' (.inl (some (.int r))) (64 * (ct s' - c0)) (768 * (ct s' - c0))) (kg 0 c0 s) (ng 0 c0 s) s 16 [(0, .ref (B + 0)), (1, .ref (B + 43)), (2, .int l2), (3, .int l3), (4, .int l4)] [] := by
  intro n
  induction n with
  | zero => intro s l2 l3 l4 hc hf; rw [f_L_typed_b16] at hf; cases hf
  | succ n ih =>
    intro s l2 l3 l4 hc hf
    rw [f_L_typed_b16] at hf
    refine r_iload (pc := 16) X dL_typed_16 4 rfl ?_
    refine r_iload_n (pc := 18) X dL_typed_18 2 rfl ?_
    refine b_icmp_ge (tgt := 57) (pc := 19) X dL_typed_19 (by decide) hf (fun hf => ?_) (fun hf => ?_)
    · refine r_iload_n (pc := 57) X dL_typed_57 3 rfl ?_
      refine b_if_eq (tgt := 68) (pc := 58) X dL_typed_58 (by decide) hf (fun hf => ?_) (fun hf => ?_)
      · refine r_bipush (v := -9) (pc := 68) X dL_typed_68 (by decide) ?_
        exact y_iret (pc := 70) X hr hf dL_typed_70
      · refine r_aload_n (x := some 0) (pc := 61) X dL_typed_61 0 rfl ?_
        refine bnd hf (fun x3 h3 hf => ?_)
        refine bnd hf (fun v4 h3v hf => ?_)
        refine y_callXVi (As := []) (st := []) (pc := 62) X M Y hc (qd_run (ou := ouI) (fun z x h => c_f_P_errorAt h) h3) rfl w_876 w_877 w_878 w_36 w_879 hdV_X10_errorAt (Rc.s rfl ce_0) (by decide) (Nat.le_of_ble_eq_true rfl) dL_typed_62 rfl h3v (fun hc => ?_)
        refine r_goto (tgt := 70) (pc := 65) X dL_typed_65 (by decide) ?_
        exact y_iret (pc := 70) X hr hf dL_typed_70
    · refine r_iload_n (pc := 22) X dL_typed_22 3 rfl ?_
      refine b_if_eq (tgt := 49) (pc := 23) X dL_typed_23 (by decide) hf (fun hf => ?_) (fun hf => ?_)
      · refine r_iconst (v := 0) (pc := 49) X dL_typed_49 (by decide) ?_
        refine r_istore_n (pc := 50) (lv' := [(0, .ref (B + 0)), (1, .ref (B + 43)), (2, .int l2), (3, .int 0), (4, .int l4)]) X dL_typed_50 (by decide) [1, 2, 3, 0, 4] rfl ?_
        refine r_iinc (v := l4 + 1) (lv' := [(0, .ref (B + 0)), (1, .ref (B + 43)), (2, .int l2), (3, .int 0), (4, .int (l4 + 1))]) (pc := 51) X dL_typed_51 4 rfl rfl (by decide) [1, 2, 3, 4, 0] rfl ?_
        refine r_goto (tgt := 16) (pc := 54) X dL_typed_54 (by decide) ?_
        exact ih hc hf
      · refine r_aload_n (x := some 0) (pc := 26) X dL_typed_26 0 rfl ?_
        refine r_iconst (v := 0) (pc := 27) X dL_typed_27 (by decide) ?_
        refine r_aload_n (x := some 43) (pc := 28) X dL_typed_28 1 rfl ?_
        refine r_iload (pc := 29) X dL_typed_29 4 rfl ?_
        refine b_iald (pc := 31) X ce_43 dL_typed_31 hf (fun j5 hf => ?_)
        refine r_iconst (v := 0) (pc := 32) X dL_typed_32 (by decide) ?_
        refine r_iconst (v := 0) (pc := 33) X dL_typed_33 (by decide) ?_
        refine r_iconst (v := 0) (pc := 34) X dL_typed_34 (by decide) ?_
        refine bnd hf (fun x6 h6 hf => ?_)
        refine ifo hf (fun hz hf => ?_)
        refine y_callWSi (As := [.ref (B + 0), .int 0, .int (gA s 43 j5), .int 0, .int 0, .int 0]) (st := []) (pc := 35) X M Y hc (c_f_L_act h6 hc.2) rfl w_437 w_438 w_35 w_439 hdS_L_act (by decide) hz (Nat.le_of_ble_eq_true rfl) dL_typed_35 rfl (fun hc => ?_)
        refine r_iload (pc := 38) X dL_typed_38 4 rfl ?_
        refine r_iconst (v := 1) (pc := 40) X dL_typed_40 (by decide) ?_
        refine r_iadd (pc := 41) X dL_typed_41 ?_
        refine b_icmp_ne (tgt := 49) (pc := 42) X dL_typed_42 (by decide) hf (fun hf => ?_) (fun hf => ?_)
        · refine r_iconst (v := 1) (pc := 45) X dL_typed_45 (by decide) ?_
          refine r_goto (tgt := 50) (pc := 46) X dL_typed_46 (by decide) ?_
          refine r_istore_n (pc := 50) (lv' := [(0, .ref (B + 0)), (1, .ref (B + 43)), (2, .int l2), (3, .int 1), (4, .int l4)]) X dL_typed_50 (by decide) [1, 2, 3, 0, 4] rfl ?_
          refine r_iinc (v := l4 + 1) (lv' := [(0, .ref (B + 0)), (1, .ref (B + 43)), (2, .int l2), (3, .int 1), (4, .int (l4 + 1))]) (pc := 51) X dL_typed_51 4 rfl rfl (by decide) [1, 2, 3, 4, 0] rfl ?_
          refine r_goto (tgt := 16) (pc := 54) X dL_typed_54 (by decide) ?_
          exact ih hc hf
        · refine r_iconst (v := 0) (pc := 49) X dL_typed_49 (by decide) ?_
          refine r_istore_n (pc := 50) (lv' := [(0, .ref (B + 0)), (1, .ref (B + 43)), (2, .int l2), (3, .int 0), (4, .int l4)]) X dL_typed_50 (by decide) [1, 2, 3, 0, 4] rfl ?_
          refine r_iinc (v := l4 + 1) (lv' := [(0, .ref (B + 0)), (1, .ref (B + 43)), (2, .int l2), (3, .int 0), (4, .int (l4 + 1))]) (pc := 51) X dL_typed_51 4 rfl rfl (by decide) [1, 2, 3, 4, 0] rfl ?_
          refine r_goto (tgt := 16) (pc := 54) X dL_typed_54 (by decide) ?_
          exact ih hc hf
set_option maxHeartbeats 1000000 in
theorem c_f_L_typed {F Z : Nat} {s : St} {p2 : Int32} {r : Int32} {s' : St} (hf : f_L_typed F Z s p2 = some (r, s')) (hz : ct s ≤ Z) : CX true yL_typed (Cond.code yL_typed cL_typed 5 (some .int)) 804 16500 (64 * (Z - ct s)) (768 * (Z - ct s)) (fun B => [.ref (B + 0), .ref (B + 43), .int p2]) s (fun B => .inl (some (.int r))) s' (64 * (ct s' - ct s)) (768 * (ct s' - ct s)) := by
  refine CX.ofL (fun B => [(0, .ref (B + 0)), (1, .ref (B + 43)), (2, .int p2)]) (by decide +kernel) (fun _ => rfl) (fun _ => (by simp [lg_sl, rfB_cat, catI, catL, catR])) (fun Γ D B X Y hr => ?_)
  have X : Cx Γ RL cL_typed 5 D B (RMg Z (ct s) 804 16500) := X
  have M : RLe (RMg Z (ct s) 804 16500) Z 0 0 (ct s) 804 16500 := RLe.rf
  have hc : Hc (ct s) Z s := ⟨Nat.le_refl _, hz⟩
  unfold f_L_typed at hf
  refine r_aload_n (x := some 0) (pc := 0) X dL_typed_0 0 rfl ?_
  refine bnd hf (fun x1 h1 hf => ?_)
  refine y_callVi (As := []) (st := []) (pc := 1) X M hc (c_f_P_clearText h1) rfl w_869 w_870 w_871 w_36 w_872 hdV_X10_clearText (Rc.s rfl ce_0) (by decide) (Nat.le_of_ble_eq_true rfl) dL_typed_1 rfl hf (fun s2 hc hf => ?_)
  refine b_if_lt (tgt := 11) (pc := 4) X dL_typed_4 (by decide) hf (fun hf => ?_) (fun hf => ?_)
  · refine r_iconst (v := 0) (pc := 11) X dL_typed_11 (by decide) ?_
    refine r_istore_n (pc := 12) (lv' := [(0, .ref (B + 0)), (1, .ref (B + 43)), (2, .int p2), (3, .int 0)]) X dL_typed_12 (by decide) [1, 2, 3, 0] rfl ?_
    refine r_iconst (v := 0) (pc := 13) X dL_typed_13 (by decide) ?_
    refine r_istore (pc := 14) (lv' := [(0, .ref (B + 0)), (1, .ref (B + 43)), (2, .int p2), (3, .int 0), (4, .int 0)]) X dL_typed_14 (by decide) [1, 2, 3, 4, 0] rfl ?_
    exact c_f_L_typed_b16 X M Y hr _ hc hf
  · refine r_iconst (v := 1) (pc := 7) X dL_typed_7 (by decide) ?_
    refine r_goto (tgt := 12) (pc := 8) X dL_typed_8 (by decide) ?_
    refine r_istore_n (pc := 12) (lv' := [(0, .ref (B + 0)), (1, .ref (B + 43)), (2, .int p2), (3, .int 1)]) X dL_typed_12 (by decide) [1, 2, 3, 0] rfl ?_
    refine r_iconst (v := 0) (pc := 13) X dL_typed_13 (by decide) ?_
    refine r_istore (pc := 14) (lv' := [(0, .ref (B + 0)), (1, .ref (B + 43)), (2, .int p2), (3, .int 1), (4, .int 0)]) X dL_typed_14 (by decide) [1, 2, 3, 4, 0] rfl ?_
    exact c_f_L_typed_b16 X M Y hr _ hc hf
/-! f_L_isText -/
theorem dL_isText_0 : decode cL_isText 0 = .ok (.iconst 0, 1) := by decide +kernel
theorem dL_isText_1 : decode cL_isText 1 = .ok (.istore 4, 2) := by decide +kernel
theorem dL_isText_3 : decode cL_isText 3 = .ok (.iconst 0, 1) := by decide +kernel
theorem dL_isText_4 : decode cL_isText 4 = .ok (.istore 5, 2) := by decide +kernel
theorem dL_isText_6 : decode cL_isText 6 = .ok (.aload_n 0, 1) := by decide +kernel
theorem dL_isText_7 : decode cL_isText 7 = .ok (.invokevirtual 130, 3) := by decide +kernel
theorem dL_isText_10 : decode cL_isText 10 = .ok (.ifCond .lt 7, 3) := by decide +kernel
theorem dL_isText_13 : decode cL_isText 13 = .ok (.iconst 1, 1) := by decide +kernel
theorem dL_isText_14 : decode cL_isText 14 = .ok (.goto 4, 3) := by decide +kernel
theorem dL_isText_17 : decode cL_isText 17 = .ok (.iconst 0, 1) := by decide +kernel
theorem dL_isText_18 : decode cL_isText 18 = .ok (.istore 6, 2) := by decide +kernel
theorem dL_isText_20 : decode cL_isText 20 = .ok (.iconst 0, 1) := by decide +kernel
theorem dL_isText_21 : decode cL_isText 21 = .ok (.istore 7, 2) := by decide +kernel
theorem dL_isText_23 : decode cL_isText 23 = .ok (.iload 7, 2) := by decide +kernel
theorem dL_isText_25 : decode cL_isText 25 = .ok (.bipush 26, 2) := by decide +kernel
theorem dL_isText_27 : decode cL_isText 27 = .ok (.if_icmp .ge 199, 3) := by decide +kernel
theorem dL_isText_30 : decode cL_isText 30 = .ok (.iload 6, 2) := by decide +kernel
theorem dL_isText_32 : decode cL_isText 32 = .ok (.ifCond .eq 194, 3) := by decide +kernel
theorem dL_isText_35 : decode cL_isText 35 = .ok (.aload_n 2, 1) := by decide +kernel
theorem dL_isText_36 : decode cL_isText 36 = .ok (.iload 4, 2) := by decide +kernel
theorem dL_isText_38 : decode cL_isText 38 = .ok (.aload_n 1, 1) := by decide +kernel
theorem dL_isText_39 : decode cL_isText 39 = .ok (.iload_n 3, 1) := by decide +kernel
theorem dL_isText_40 : decode cL_isText 40 = .ok (.iload 7, 2) := by decide +kernel
theorem dL_isText_42 : decode cL_isText 42 = .ok (.iadd, 1) := by decide +kernel
theorem dL_isText_43 : decode cL_isText 43 = .ok (.invokestatic 139, 3) := by decide +kernel
theorem dL_isText_46 : decode cL_isText 46 = .ok (.invokestatic 143, 3) := by decide +kernel
theorem dL_isText_49 : decode cL_isText 49 = .ok (.iastore, 1) := by decide +kernel
theorem dL_isText_50 : decode cL_isText 50 = .ok (.aload_n 0, 1) := by decide +kernel
theorem dL_isText_51 : decode cL_isText 51 = .ok (.iconst 0, 1) := by decide +kernel
theorem dL_isText_52 : decode cL_isText 52 = .ok (.aload_n 2, 1) := by decide +kernel
theorem dL_isText_53 : decode cL_isText 53 = .ok (.iload 4, 2) := by decide +kernel
theorem dL_isText_55 : decode cL_isText 55 = .ok (.iaload, 1) := by decide +kernel
theorem dL_isText_56 : decode cL_isText 56 = .ok (.iconst 0, 1) := by decide +kernel
theorem dL_isText_57 : decode cL_isText 57 = .ok (.iconst 0, 1) := by decide +kernel
theorem dL_isText_58 : decode cL_isText 58 = .ok (.iconst 0, 1) := by decide +kernel
theorem dL_isText_59 : decode cL_isText 59 = .ok (.invokestatic 133, 3) := by decide +kernel
theorem dL_isText_62 : decode cL_isText 62 = .ok (.iload 4, 2) := by decide +kernel
theorem dL_isText_64 : decode cL_isText 64 = .ok (.iconst 1, 1) := by decide +kernel
theorem dL_isText_65 : decode cL_isText 65 = .ok (.iadd, 1) := by decide +kernel
theorem dL_isText_66 : decode cL_isText 66 = .ok (.if_icmp .ne 7, 3) := by decide +kernel
theorem dL_isText_69 : decode cL_isText 69 = .ok (.iconst 1, 1) := by decide +kernel
theorem dL_isText_70 : decode cL_isText 70 = .ok (.goto 4, 3) := by decide +kernel
theorem dL_isText_73 : decode cL_isText 73 = .ok (.iconst 0, 1) := by decide +kernel
theorem dL_isText_74 : decode cL_isText 74 = .ok (.istore 6, 2) := by decide +kernel
theorem dL_isText_76 : decode cL_isText 76 = .ok (.iinc 4 1, 3) := by decide +kernel
theorem dL_isText_79 : decode cL_isText 79 = .ok (.aload_n 0, 1) := by decide +kernel
theorem dL_isText_80 : decode cL_isText 80 = .ok (.invokevirtual 118, 3) := by decide +kernel
theorem dL_isText_83 : decode cL_isText 83 = .ok (.istore 8, 2) := by decide +kernel
theorem dL_isText_85 : decode cL_isText 85 = .ok (.iload 6, 2) := by decide +kernel
theorem dL_isText_87 : decode cL_isText 87 = .ok (.ifCond .eq 62, 3) := by decide +kernel
theorem dL_isText_90 : decode cL_isText 90 = .ok (.iload 8, 2) := by decide +kernel
theorem dL_isText_92 : decode cL_isText 92 = .ok (.iconst (-1), 1) := by decide +kernel
theorem dL_isText_93 : decode cL_isText 93 = .ok (.if_icmp .lt 56, 3) := by decide +kernel
theorem dL_isText_96 : decode cL_isText 96 = .ok (.iload 8, 2) := by decide +kernel
theorem dL_isText_98 : decode cL_isText 98 = .ok (.iload 4, 2) := by decide +kernel
theorem dL_isText_100 : decode cL_isText 100 = .ok (.if_icmp .gt 49, 3) := by decide +kernel
theorem dL_isText_103 : decode cL_isText 103 = .ok (.iload 5, 2) := by decide +kernel
theorem dL_isText_105 : decode cL_isText 105 = .ok (.ifCond .lt 19, 3) := by decide +kernel
theorem dL_isText_108 : decode cL_isText 108 = .ok (.iload 5, 2) := by decide +kernel
theorem dL_isText_110 : decode cL_isText 110 = .ok (.iload 4, 2) := by decide +kernel
theorem dL_isText_112 : decode cL_isText 112 = .ok (.iconst 1, 1) := by decide +kernel
theorem dL_isText_113 : decode cL_isText 113 = .ok (.isub, 1) := by decide +kernel
theorem dL_isText_114 : decode cL_isText 114 = .ok (.if_icmp .eq 10, 3) := by decide +kernel
theorem dL_isText_117 : decode cL_isText 117 = .ok (.iload 8, 2) := by decide +kernel
theorem dL_isText_119 : decode cL_isText 119 = .ok (.iload 5, 2) := by decide +kernel
theorem dL_isText_121 : decode cL_isText 121 = .ok (.if_icmp .ne 28, 3) := by decide +kernel
theorem dL_isText_124 : decode cL_isText 124 = .ok (.iload 8, 2) := by decide +kernel
theorem dL_isText_126 : decode cL_isText 126 = .ok (.ifCond .lt 19, 3) := by decide +kernel
theorem dL_isText_129 : decode cL_isText 129 = .ok (.iload 8, 2) := by decide +kernel
theorem dL_isText_131 : decode cL_isText 131 = .ok (.iload 4, 2) := by decide +kernel
theorem dL_isText_133 : decode cL_isText 133 = .ok (.iconst 1, 1) := by decide +kernel
theorem dL_isText_134 : decode cL_isText 134 = .ok (.isub, 1) := by decide +kernel
theorem dL_isText_135 : decode cL_isText 135 = .ok (.if_icmp .ge 10, 3) := by decide +kernel
theorem dL_isText_138 : decode cL_isText 138 = .ok (.iload 8, 2) := by decide +kernel
theorem dL_isText_140 : decode cL_isText 140 = .ok (.iload 5, 2) := by decide +kernel
theorem dL_isText_142 : decode cL_isText 142 = .ok (.if_icmp .ne 7, 3) := by decide +kernel
theorem dL_isText_145 : decode cL_isText 145 = .ok (.iconst 1, 1) := by decide +kernel
theorem dL_isText_146 : decode cL_isText 146 = .ok (.goto 4, 3) := by decide +kernel
theorem dL_isText_149 : decode cL_isText 149 = .ok (.iconst 0, 1) := by decide +kernel
theorem dL_isText_150 : decode cL_isText 150 = .ok (.istore 6, 2) := by decide +kernel
theorem dL_isText_152 : decode cL_isText 152 = .ok (.iload 6, 2) := by decide +kernel
theorem dL_isText_154 : decode cL_isText 154 = .ok (.ifCond .eq 62, 3) := by decide +kernel
theorem dL_isText_157 : decode cL_isText 157 = .ok (.iload 8, 2) := by decide +kernel
theorem dL_isText_159 : decode cL_isText 159 = .ok (.iload 4, 2) := by decide +kernel
theorem dL_isText_161 : decode cL_isText 161 = .ok (.iconst 1, 1) := by decide +kernel
theorem dL_isText_162 : decode cL_isText 162 = .ok (.isub, 1) := by decide +kernel
theorem dL_isText_163 : decode cL_isText 163 = .ok (.if_icmp .ne 53, 3) := by decide +kernel
theorem dL_isText_166 : decode cL_isText 166 = .ok (.aload_n 1, 1) := by decide +kernel
theorem dL_isText_167 : decode cL_isText 167 = .ok (.iload_n 3, 1) := by decide +kernel
theorem dL_isText_168 : decode cL_isText 168 = .ok (.iload 7, 2) := by decide +kernel
theorem dL_isText_170 : decode cL_isText 170 = .ok (.iadd, 1) := by decide +kernel
theorem dL_isText_171 : decode cL_isText 171 = .ok (.invokestatic 139, 3) := by decide +kernel
theorem dL_isText_174 : decode cL_isText 174 = .ok (.sipush 900, 3) := by decide +kernel
theorem dL_isText_177 : decode cL_isText 177 = .ok (.idiv, 1) := by decide +kernel
theorem dL_isText_178 : decode cL_isText 178 = .ok (.bipush 9, 2) := by decide +kernel
theorem dL_isText_180 : decode cL_isText 180 = .ok (.irem, 1) := by decide +kernel
theorem dL_isText_181 : decode cL_isText 181 = .ok (.ifCond .le 35, 3) := by decide +kernel
theorem dL_isText_184 : decode cL_isText 184 = .ok (.iinc 4 (-1), 3) := by decide +kernel
theorem dL_isText_187 : decode cL_isText 187 = .ok (.aload_n 0, 1) := by decide +kernel
theorem dL_isText_188 : decode cL_isText 188 = .ok (.aload_n 2, 1) := by decide +kernel
theorem dL_isText_189 : decode cL_isText 189 = .ok (.iload 4, 2) := by decide +kernel
theorem dL_isText_191 : decode cL_isText 191 = .ok (.invokestatic 146, 3) := by decide +kernel
theorem dL_isText_194 : decode cL_isText 194 = .ok (.istore 8, 2) := by decide +kernel
theorem dL_isText_196 : decode cL_isText 196 = .ok (.iload 8, 2) := by decide +kernel
theorem dL_isText_198 : decode cL_isText 198 = .ok (.iconst (-1), 1) := by decide +kernel
theorem dL_isText_199 : decode cL_isText 199 = .ok (.if_icmp .eq 10, 3) := by decide +kernel
theorem dL_isText_202 : decode cL_isText 202 = .ok (.iload 8, 2) := by decide +kernel
theorem dL_isText_204 : decode cL_isText 204 = .ok (.iload 4, 2) := by decide +kernel
theorem dL_isText_206 : decode cL_isText 206 = .ok (.if_icmp .ne 7, 3) := by decide +kernel
theorem dL_isText_209 : decode cL_isText 209 = .ok (.iconst 1, 1) := by decide +kernel
theorem dL_isText_210 : decode cL_isText 210 = .ok (.goto 4, 3) := by decide +kernel
theorem dL_isText_213 : decode cL_isText 213 = .ok (.iconst 0, 1) := by decide +kernel
theorem dL_isText_214 : decode cL_isText 214 = .ok (.istore 6, 2) := by decide +kernel
theorem dL_isText_216 : decode cL_isText 216 = .ok (.iload 8, 2) := by decide +kernel
theorem dL_isText_218 : decode cL_isText 218 = .ok (.istore 5, 2) := by decide +kernel
theorem dL_isText_220 : decode cL_isText 220 = .ok (.iinc 7 1, 3) := by decide +kernel
theorem dL_isText_223 : decode cL_isText 223 = .ok (.goto (-200), 3) := by decide +kernel
theorem dL_isText_226 : decode cL_isText 226 = .ok (.iload 6, 2) := by decide +kernel
theorem dL_isText_228 : decode cL_isText 228 = .ok (.ifCond .eq 8, 3) := by decide +kernel
theorem dL_isText_231 : decode cL_isText 231 = .ok (.iload 5, 2) := by decide +kernel
theorem dL_isText_233 : decode cL_isText 233 = .ok (.ifCond .lt 42, 3) := by decide +kernel
theorem dL_isText_236 : decode cL_isText 236 = .ok (.iload 6, 2) := by decide +kernel
theorem dL_isText_238 : decode cL_isText 238 = .ok (.ifCond .eq 35, 3) := by decide +kernel
theorem dL_isText_241 : decode cL_isText 241 = .ok (.aload_n 0, 1) := by decide +kernel
theorem dL_isText_242 : decode cL_isText 242 = .ok (.iconst 1, 1) := by decide +kernel
theorem dL_isText_243 : decode cL_isText 243 = .ok (.iconst 0, 1) := by decide +kernel
theorem dL_isText_244 : decode cL_isText 244 = .ok (.iconst 0, 1) := by decide +kernel
theorem dL_isText_245 : decode cL_isText 245 = .ok (.invokestatic 150, 3) := by decide +kernel
theorem dL_isText_248 : decode cL_isText 248 = .ok (.ldc2_w 64, 3) := by decide +kernel
theorem dL_isText_251 : decode cL_isText 251 = .ok (.lcmp, 1) := by decide +kernel
theorem dL_isText_252 : decode cL_isText 252 = .ok (.ifCond .ne 21, 3) := by decide +kernel
theorem dL_isText_255 : decode cL_isText 255 = .ok (.aload_n 0, 1) := by decide +kernel
theorem dL_isText_256 : decode cL_isText 256 = .ok (.iconst 0, 1) := by decide +kernel
theorem dL_isText_257 : decode cL_isText 257 = .ok (.iconst 0, 1) := by decide +kernel
theorem dL_isText_258 : decode cL_isText 258 = .ok (.iconst 0, 1) := by decide +kernel
theorem dL_isText_259 : decode cL_isText 259 = .ok (.invokestatic 150, 3) := by decide +kernel
theorem dL_isText_262 : decode cL_isText 262 = .ok (.ldc2_w 64, 3) := by decide +kernel
theorem dL_isText_265 : decode cL_isText 265 = .ok (.lcmp, 1) := by decide +kernel
theorem dL_isText_266 : decode cL_isText 266 = .ok (.ifCond .ne 7, 3) := by decide +kernel
theorem dL_isText_269 : decode cL_isText 269 = .ok (.iconst 1, 1) := by decide +kernel
theorem dL_isText_270 : decode cL_isText 270 = .ok (.goto 4, 3) := by decide +kernel
theorem dL_isText_273 : decode cL_isText 273 = .ok (.iconst 0, 1) := by decide +kernel
theorem dL_isText_274 : decode cL_isText 274 = .ok (.ireturn, 1) := by decide +kernel
theorem dL_isText_275 : decode cL_isText 275 = .ok (.aload_n 0, 1) := by decide +kernel
theorem dL_isText_276 : decode cL_isText 276 = .ok (.iconst 1, 1) := by decide +kernel
theorem dL_isText_277 : decode cL_isText 277 = .ok (.iconst 0, 1) := by decide +kernel
theorem dL_isText_278 : decode cL_isText 278 = .ok (.aload_n 0, 1) := by decide +kernel
theorem dL_isText_279 : decode cL_isText 279 = .ok (.invokevirtual 103, 3) := by decide +kernel
theorem dL_isText_282 : decode cL_isText 282 = .ok (.invokestatic 150, 3) := by decide +kernel
theorem dL_isText_285 : decode cL_isText 285 = .ok (.aload_n 0, 1) := by decide +kernel
theorem dL_isText_286 : decode cL_isText 286 = .ok (.iconst 0, 1) := by decide +kernel
theorem dL_isText_287 : decode cL_isText 287 = .ok (.iconst 0, 1) := by decide +kernel
theorem dL_isText_288 : decode cL_isText 288 = .ok (.aload_n 0, 1) := by decide +kernel
theorem dL_isText_289 : decode cL_isText 289 = .ok (.invokevirtual 103, 3) := by decide +kernel
theorem dL_isText_292 : decode cL_isText 292 = .ok (.invokestatic 150, 3) := by decide +kernel
theorem dL_isText_295 : decode cL_isText 295 = .ok (.lcmp, 1) := by decide +kernel
theorem dL_isText_296 : decode cL_isText 296 = .ok (.ifCond .ne 7, 3) := by decide +kernel
theorem dL_isText_299 : decode cL_isText 299 = .ok (.iconst 1, 1) := by decide +kernel
theorem dL_isText_300 : decode cL_isText 300 = .ok (.goto 4, 3) := by decide +kernel
theorem dL_isText_303 : decode cL_isText 303 = .ok (.iconst 0, 1) := by decide +kernel
theorem dL_isText_304 : decode cL_isText 304 = .ok (.ireturn, 1) := by decide +kernel
def f_L_isText_b236 (L : Nat) (xs : Nat → Int32) (F Z : Nat) (s : St) (l6 : Int32) : Option (Int32 × St) :=
  if l6 = 0 then
    (some (0, s))
  else
    ((f_L_told F Z s 1 0 0).bind fun x3 => (if ct s ≤ ct x3.2 ∧ ct x3.2 ≤ Z then (if x3.1 = (-124300000000) then
      ((f_L_told F Z x3.2 0 0 0).bind fun x4 => (if ct x3.2 ≤ ct x4.2 ∧ ct x4.2 ≤ Z then (if x4.1 = (-124300000000) then
        (some (1, x4.2))
      else
        (some (0, x4.2))) else none))
    else
      (some (0, x3.2))) else none))
def f_L_isText_b226 (L : Nat) (xs : Nat → Int32) (F Z : Nat) (s : St) (l5 : Int32) (l6 : Int32) : Option (Int32 × St) :=
  if l6 = 0 then
    (f_L_isText_b236 L xs F Z s l6)
  else
    (if l5 < 0 then
      ((f_P_now F s).bind fun x5 => (lt (kb s x5.2 0) fun s6 => ((f_L_told F Z s6 1 0 x5.1).bind fun x7 => (if ct s6 ≤ ct x7.2 ∧ ct x7.2 ≤ Z then ((f_P_now F x7.2).bind fun x8 => (lt (kb x7.2 x8.2 0) fun s9 => ((f_L_told F Z s9 0 0 x8.1).bind fun x10 => (if ct s9 ≤ ct x10.2 ∧ ct x10.2 ≤ Z then (if x7.1 = x10.1 then
        (some (1, x10.2))
      else
        (some (0, x10.2))) else none)))) else none))))
    else
      (f_L_isText_b236 L xs F Z s l6))
def f_L_isText_b150 (L : Nat) (xs : Nat → Int32) (F Z : Nat) (K23 : St → Int32 → Int32 → Int32 → Int32 → Int32 → Option (Int32 × St)) (s : St) (l3 : Int32) (l4 : Int32) (l7 : Int32) (l8 : Int32) (t0 : Int32) : Option (Int32 × St) :=
  if t0 = 0 then
    (K23 s l3 l4 l8 t0 (l7 + 1))
  else
    (if l8 = (l4 - 1) then
      ((f_L_dice L xs F Z s (l3 + l7)).bind fun x20 => (if ct s ≤ ct x20.2 ∧ ct x20.2 ≤ Z then (if ((x20.1 / 900) - (x20.1 / 900) / 9 * 9) ≤ 0 then
        (K23 x20.2 l3 l4 l8 t0 (l7 + 1))
      else
        ((f_L_typed F Z x20.2 (l4 + (-1))).bind fun x21 => (if ct x20.2 ≤ ct x21.2 ∧ ct x21.2 ≤ Z then (if x21.1 = (-1) then
          (K23 x21.2 l3 (l4 + (-1)) x21.1 1 (l7 + 1))
        else
          (if x21.1 = (l4 + (-1)) then
            (K23 x21.2 l3 (l4 + (-1)) x21.1 1 (l7 + 1))
          else
            (K23 x21.2 l3 (l4 + (-1)) x21.1 0 (l7 + 1)))) else none))) else none))
    else
      (K23 s l3 l4 l8 t0 (l7 + 1)))
def f_L_isText_b124 (L : Nat) (xs : Nat → Int32) (F Z : Nat) (K23 : St → Int32 → Int32 → Int32 → Int32 → Int32 → Option (Int32 × St)) (s : St) (l3 : Int32) (l4 : Int32) (l5 : Int32) (l7 : Int32) (l8 : Int32) : Option (Int32 × St) :=
  if l8 < 0 then
    (f_L_isText_b150 L xs F Z K23 s l3 l4 l7 l8 1)
  else
    (if (l4 - 1) ≤ l8 then
      (f_L_isText_b150 L xs F Z K23 s l3 l4 l7 l8 1)
    else
      (if l8 = l5 then
        (f_L_isText_b150 L xs F Z K23 s l3 l4 l7 l8 1)
      else
        (f_L_isText_b150 L xs F Z K23 s l3 l4 l7 l8 0)))
def f_L_isText_b74 (L : Nat) (xs : Nat → Int32) (F Z : Nat) (K23 : St → Int32 → Int32 → Int32 → Int32 → Int32 → Option (Int32 × St)) (s : St) (l3 : Int32) (l4 : Int32) (l5 : Int32) (l7 : Int32) (t0 : Int32) : Option (Int32 × St) :=
  (qd Z s (fun z => f_P_errorAt F z s)).bind fun x18 => ((an x18.1).bind fun v19 => (if t0 = 0 then
    (f_L_isText_b150 L xs F Z K23 x18.2 l3 (l4 + 1) l7 v19 0)
  else
    (if v19 < (-1) then
      (f_L_isText_b150 L xs F Z K23 x18.2 l3 (l4 + 1) l7 v19 0)
    else
      (if (l4 + 1) < v19 then
        (f_L_isText_b150 L xs F Z K23 x18.2 l3 (l4 + 1) l7 v19 0)
      else
        (if l5 < 0 then
          (f_L_isText_b124 L xs F Z K23 x18.2 l3 (l4 + 1) l5 l7 v19)
        else
          (if l5 = ((l4 + 1) - 1) then
            (f_L_isText_b124 L xs F Z K23 x18.2 l3 (l4 + 1) l5 l7 v19)
          else
            (if v19 = l5 then
              (f_L_isText_b124 L xs F Z K23 x18.2 l3 (l4 + 1) l5 l7 v19)
            else
              (f_L_isText_b150 L xs F Z K23 x18.2 l3 (l4 + 1) l7 v19 0))))))))
def f_L_isText_b23 (L : Nat) (xs : Nat → Int32) (F Z : Nat) : Nat → St → Int32 → Int32 → Int32 → Int32 → Int32 → Option (Int32 × St)
  | 0, _, _, _, _, _, _ => none
  | n + 1, s, l3, l4, l5, l6, l7 =>
    if 26 ≤ l7 then
      (f_L_isText_b226 L xs F Z s l5 l6)
    else
      (if l6 = 0 then
        (f_L_isText_b226 L xs F Z s l5 l6)
      else
        ((f_L_dice L xs F Z s (l3 + l7)).bind fun x11 => (if ct s ≤ ct x11.2 ∧ ct x11.2 ≤ Z then ((f_L_code F x11.2 x11.1).bind fun x12 => (lt (kb x11.2 x12.2 0) fun s13 => ((ix 40 l4).bind fun j14 => (lt (sA s13 43 j14 x12.1) fun s15 => ((ix 40 l4).bind fun j16 => ((f_L_act F Z s15 0 (gA s15 43 j16) 0 0 0).bind fun x17 => (if ct s15 ≤ ct x17.2 ∧ ct x17.2 ≤ Z then (if x17.1 = (l4 + 1) then
          (f_L_isText_b74 L xs F Z (f_L_isText_b23 L xs F Z n) x17.2 l3 l4 l5 l7 1)
        else
          (f_L_isText_b74 L xs F Z (f_L_isText_b23 L xs F Z n) x17.2 l3 l4 l5 l7 0)) else none))))))) else none)))
def f_L_isText (L : Nat) (xs : Nat → Int32) (F Z : Nat) (s : St) (p3 : Int32) : Option (Int32 × St) :=
  (f_P_clearText F s).bind fun x1 => (lt (kb s x1.2 0) fun s2 => (if x1.1 < 0 then
    (f_L_isText_b23 L xs F Z F s2 p3 0 0 0 0)
  else
    (f_L_isText_b23 L xs F Z F s2 p3 0 0 1 0)))
set_option maxHeartbeats 1000000 in
theorem c_f_L_isText_b236 {b L : Nat} {xs : Nat → Int32} {F Z : Nat} {c0 : Nat} {Γ : Ga} {D : DD} {B : Nat} {r : Int32} {s' : St} (X : Cx Γ RL cL_isText 9 D B (RMg Z c0 805 16524)) (M : RLe (RMg Z c0 805 16524) Z 0 0 c0 805 16524) (Y : Xy Γ B) (S : SX Γ B b L xs) (hr : (Gme Γ).sig.returnType = (some .boolean)) {s : St} {l6 : Int32} (hc : Hc c0 Z s) (hf : f_L_isText_b236 L xs F Z s l6 = some (r, s')) : V Γ D B true 9 (QX Γ D B true s' (.inl (some (.int r))) (64 * (ct s' - c0)) (768 * (ct s' - c0))) (kg 0 c0 s) (ng 0 c0 s) s 236 [(0, .ref (B + 0)), (6, .int l6)] [] := by
  unfold f_L_isText_b236 at hf
  refine r_iload (pc := 236) X dL_isText_236 1 rfl ?_
  refine b_if_eq (tgt := 273) (pc := 238) X dL_isText_238 (by decide) hf (fun hf => ?_) (fun hf => ?_)
  · refine r_iconst (v := 0) (pc := 273) X dL_isText_273 (by decide) ?_
    exact y_zret (pc := 274) X hr (by decide) hf dL_isText_274
  · refine r_aload_n (x := some 0) (pc := 241) X dL_isText_241 0 rfl ?_
    refine r_iconst (v := 1) (pc := 242) X dL_isText_242 (by decide) ?_
    refine r_iconst (v := 0) (pc := 243) X dL_isText_243 (by decide) ?_
    refine r_iconst (v := 0) (pc := 244) X dL_isText_244 (by decide) ?_
    refine bnd hf (fun x3 h3 hf => ?_)
    refine ifo hf (fun hz hf => ?_)
    refine y_callWSl (As := [.ref (B + 0), .int 1, .int 0, .int 0]) (st := []) (pc := 245) X M Y hc (c_f_L_told h3 hc.2) rfl w_887 w_888 w_35 w_889 hdS_L_told (by decide) hz (Nat.le_of_ble_eq_true rfl) dL_isText_245 rfl (fun hc => ?_)
    refine r_ldc2 (v := -124300000000) (pc := 248) X w_975 dL_isText_248 ?_
    refine b_lcmp_ne (tgt := 273) (pc := 251) X dL_isText_251 dL_isText_252 (by decide) hf (fun hf => ?_) (fun hf => ?_)
    · refine r_aload_n (x := some 0) (pc := 255) X dL_isText_255 0 rfl ?_
      refine r_iconst (v := 0) (pc := 256) X dL_isText_256 (by decide) ?_
      refine r_iconst (v := 0) (pc := 257) X dL_isText_257 (by decide) ?_
      refine r_iconst (v := 0) (pc := 258) X dL_isText_258 (by decide) ?_
      refine bnd hf (fun x4 h4 hf => ?_)
      refine ifo hf (fun hz hf => ?_)
      refine y_callWSl (As := [.ref (B + 0), .int 0, .int 0, .int 0]) (st := []) (pc := 259) X M Y hc (c_f_L_told h4 hc.2) rfl w_887 w_888 w_35 w_889 hdS_L_told (by decide) hz (Nat.le_of_ble_eq_true rfl) dL_isText_259 rfl (fun hc => ?_)
      refine r_ldc2 (v := -124300000000) (pc := 262) X w_975 dL_isText_262 ?_
      refine b_lcmp_ne (tgt := 273) (pc := 265) X dL_isText_265 dL_isText_266 (by decide) hf (fun hf => ?_) (fun hf => ?_)
      · refine r_iconst (v := 1) (pc := 269) X dL_isText_269 (by decide) ?_
        refine r_goto (tgt := 274) (pc := 270) X dL_isText_270 (by decide) ?_
        exact y_zret (pc := 274) X hr (by decide) hf dL_isText_274
      · refine r_iconst (v := 0) (pc := 273) X dL_isText_273 (by decide) ?_
        exact y_zret (pc := 274) X hr (by decide) hf dL_isText_274
    · refine r_iconst (v := 0) (pc := 273) X dL_isText_273 (by decide) ?_
      exact y_zret (pc := 274) X hr (by decide) hf dL_isText_274
set_option maxHeartbeats 1000000 in
theorem c_f_L_isText_b226 {b L : Nat} {xs : Nat → Int32} {F Z : Nat} {c0 : Nat} {Γ : Ga} {D : DD} {B : Nat} {r : Int32} {s' : St} (X : Cx Γ RL cL_isText 9 D B (RMg Z c0 805 16524)) (M : RLe (RMg Z c0 805 16524) Z 0 0 c0 805 16524) (Y : Xy Γ B) (S : SX Γ B b L xs) (hr : (Gme Γ).sig.returnType = (some .boolean)) {s : St} {l5 : Int32} {l6 : Int32} (hc : Hc c0 Z s) (hf : f_L_isText_b226 L xs F Z s l5 l6 = some (r, s')) : V Γ D B true 9 (QX Γ D B true s' (.inl (some (.int r))) (64 * (ct s' - c0)) (768 * (ct s' - c0))) (kg 0 c0 s) (ng 0 c0 s) s 226 [(0, .ref (B + 0)), (5, .int l5), (6, .int l6)] [] := by
  unfold f_L_isText_b226 at hf
  refine r_iload (pc := 226) X dL_isText_226 2 rfl ?_
  refine b_if_eq (tgt := 236) (pc := 228) X dL_isText_228 (by decide) hf (fun hf => ?_) (fun hf => ?_)
  · refine r_forget (lv' := [(0, .ref (B + 0)), (6, .int l6)]) [0, 2] rfl ?_
    exact c_f_L_isText_b236 X M Y S hr hc hf
  · refine r_iload (pc := 231) X dL_isText_231 1 rfl ?_
    refine b_if_lt (tgt := 275) (pc := 233) X dL_isText_233 (by decide) hf (fun hf => ?_) (fun hf => ?_)
    · refine r_aload_n (x := some 0) (pc := 275) X dL_isText_275 0 rfl ?_
      refine r_iconst (v := 1) (pc := 276) X dL_isText_276 (by decide) ?_
      refine r_iconst (v := 0) (pc := 277) X dL_isText_277 (by decide) ?_
      refine r_aload_n (x := some 0) (pc := 278) X dL_isText_278 0 rfl ?_
      refine bnd hf (fun x5 h5 hf => ?_)
      refine y_callVi (As := []) (st := [.int 0, .int 1, .ref (B + 0)]) (pc := 279) X M hc (c_f_P_now h5) rfl w_317 w_318 w_319 w_36 w_320 hdV_X10_now (Rc.s rfl ce_0) (by decide) (Nat.le_of_ble_eq_true rfl) dL_isText_279 rfl hf (fun s6 hc hf => ?_)
      refine bnd hf (fun x7 h7 hf => ?_)
      refine ifo hf (fun hz hf => ?_)
      refine y_callWSl (As := [.ref (B + 0), .int 1, .int 0, .int x5.1]) (st := []) (pc := 282) X M Y hc (c_f_L_told h7 hc.2) rfl w_887 w_888 w_35 w_889 hdS_L_told (by decide) hz (Nat.le_of_ble_eq_true rfl) dL_isText_282 rfl (fun hc => ?_)
      refine r_aload_n (x := some 0) (pc := 285) X dL_isText_285 0 rfl ?_
      refine r_iconst (v := 0) (pc := 286) X dL_isText_286 (by decide) ?_
      refine r_iconst (v := 0) (pc := 287) X dL_isText_287 (by decide) ?_
      refine r_aload_n (x := some 0) (pc := 288) X dL_isText_288 0 rfl ?_
      refine bnd hf (fun x8 h8 hf => ?_)
      refine y_callVi (As := []) (st := [.int 0, .int 0, .ref (B + 0), .long x7.1]) (pc := 289) X M hc (c_f_P_now h8) rfl w_317 w_318 w_319 w_36 w_320 hdV_X10_now (Rc.s rfl ce_0) (by decide) (Nat.le_of_ble_eq_true rfl) dL_isText_289 rfl hf (fun s9 hc hf => ?_)
      refine bnd hf (fun x10 h10 hf => ?_)
      refine ifo hf (fun hz hf => ?_)
      refine y_callWSl (As := [.ref (B + 0), .int 0, .int 0, .int x8.1]) (st := [.long x7.1]) (pc := 292) X M Y hc (c_f_L_told h10 hc.2) rfl w_887 w_888 w_35 w_889 hdS_L_told (by decide) hz (Nat.le_of_ble_eq_true rfl) dL_isText_292 rfl (fun hc => ?_)
      refine b_lcmp_ne (tgt := 303) (pc := 295) X dL_isText_295 dL_isText_296 (by decide) hf (fun hf => ?_) (fun hf => ?_)
      · refine r_iconst (v := 1) (pc := 299) X dL_isText_299 (by decide) ?_
        refine r_goto (tgt := 304) (pc := 300) X dL_isText_300 (by decide) ?_
        exact y_zret (pc := 304) X hr (by decide) hf dL_isText_304
      · refine r_iconst (v := 0) (pc := 303) X dL_isText_303 (by decide) ?_
        exact y_zret (pc := 304) X hr (by decide) hf dL_isText_304
    · refine r_forget (lv' := [(0, .ref (B + 0)), (6, .int l6)]) [0, 2] rfl ?_
      exact c_f_L_isText_b236 X M Y S hr hc hf
set_option maxHeartbeats 1000000 in
theorem c_f_L_isText_b150 {b L : Nat} {xs : Nat → Int32} {F Z : Nat} {c0 : Nat} {Γ : Ga} {D : DD} {B : Nat} {r : Int32} {s' : St} (X : Cx Γ RL cL_isText 9 D B (RMg Z c0 805 16524)) (M : RLe (RMg Z c0 805 16524) Z 0 0 c0 805 16524) (Y : Xy Γ B) (S : SX Γ B b L xs) (hr : (Gme Γ).sig.returnType = (some .boolean)) {K23 : St → Int32 → Int32 → Int32 → Int32 → Int32 → Option (Int32 × St)} (hK23 : ∀ {s : St} {l3 : Int32} {l4 : Int32} {l5 : Int32} {l6 : Int32} {l7 : Int32}, Hc c0 Z s → K23 s l3 l4 l5 l6 l7 = some (r, s') → V Γ D B true 9 (QX Γ D B true s' (.inl (some (.int r))) (64 * (ct s' - c0)) (768 * (ct s' - c0))) (kg 0 c0 s) (ng 0 c0 s) s 23 [(0, .ref (B + 0)), (1, .ref b), (2, .ref (B + 43)), (3, .int l3), (4, .int l4), (5, .int l5), (6, .int l6), (7, .int l7)] []) {s : St} {l3 : Int32} {l4 : Int32} {l7 : Int32} {l8 : Int32} {t0 : Int32} (hc : Hc c0 Z s) (hf : f_L_isText_b150 L xs F Z K23 s l3 l4 l7 l8 t0 = some (r, s')) : V Γ D B true 9 (QX Γ D B true s' (.inl (some (.int r))) (64 * (ct s' - c0)) (768 * (ct s' - c0))) (kg 0 c0 s) (ng 0 c0 s) s 150 [(0, .ref (B + 0)), (1, .ref b), (2, .ref (B + 43)), (3, .int l3), (4, .int l4), (7, .int l7), (8, .int l8)] [.int t0] := by
  unfold f_L_isText_b150 at hf
  refine r_istore (pc := 150) (lv' := [(0, .ref (B + 0)), (1, .ref b), (2, .ref (B + 43)), (3, .int l3), (4, .int l4), (6, .int t0), (7, .int l7), (8, .int l8)]) X dL_isText_150 (by decide) [1, 2, 3, 4, 5, 0, 6, 7] rfl ?_
  refine r_iload (pc := 152) X dL_isText_152 5 rfl ?_
  refine b_if_eq (tgt := 216) (pc := 154) X dL_isText_154 (by decide) hf (fun hf => ?_) (fun hf => ?_)
  · refine r_iload (pc := 216) X dL_isText_216 7 rfl ?_
    refine r_istore (pc := 218) (lv' := [(0, .ref (B + 0)), (1, .ref b), (2, .ref (B + 43)), (3, .int l3), (4, .int l4), (5, .int l8), (6, .int t0), (7, .int l7)]) X dL_isText_218 (by decide) [1, 2, 3, 4, 5, 0, 6, 7] rfl ?_
    refine r_iinc (v := l7 + 1) (lv' := [(0, .ref (B + 0)), (1, .ref b), (2, .ref (B + 43)), (3, .int l3), (4, .int l4), (5, .int l8), (6, .int t0), (7, .int (l7 + 1))]) (pc := 220) X dL_isText_220 7 rfl rfl (by decide) [1, 2, 3, 4, 5, 6, 7, 0] rfl ?_
    refine r_goto (tgt := 23) (pc := 223) X dL_isText_223 (by decide) ?_
    exact hK23 hc hf
  · refine r_iload (pc := 157) X dL_isText_157 7 rfl ?_
    refine r_iload (pc := 159) X dL_isText_159 4 rfl ?_
    refine r_iconst (v := 1) (pc := 161) X dL_isText_161 (by decide) ?_
    refine r_isub (pc := 162) X dL_isText_162 ?_
    refine b_icmp_ne (tgt := 216) (pc := 163) X dL_isText_163 (by decide) hf (fun hf => ?_) (fun hf => ?_)
    · refine s_aload_n (pc := 166) X dL_isText_166 1 rfl ?_
      refine r_iload_n (pc := 167) X dL_isText_167 3 rfl ?_
      refine r_iload (pc := 168) X dL_isText_168 6 rfl ?_
      refine r_iadd (pc := 170) X dL_isText_170 ?_
      refine bnd hf (fun x20 h20 hf => ?_)
      refine ifo hf (fun hz hf => ?_)
      refine y_callTSi (As := [.ref b, .int (l3 + l7)]) (st := []) (pc := 171) X M Y S hc (c_f_L_dice h20 hc.2) rfl w_432 w_433 w_35 w_434 hdS_L_dice (by decide) hz (Nat.le_of_ble_eq_true rfl) dL_isText_171 rfl (fun hc => ?_)
      refine r_sipush (v := 900) (pc := 174) X dL_isText_174 (by decide) ?_
      refine r_idiv (pc := 177) X dL_isText_177 (by decide) ?_
      refine r_bipush (v := 9) (pc := 178) X dL_isText_178 (by decide) ?_
      refine r_irem (pc := 180) X dL_isText_180 (by decide) ?_
      refine b_if_le (tgt := 216) (pc := 181) X dL_isText_181 (by decide) hf (fun hf => ?_) (fun hf => ?_)
      · refine r_iload (pc := 216) X dL_isText_216 7 rfl ?_
        refine r_istore (pc := 218) (lv' := [(0, .ref (B + 0)), (1, .ref b), (2, .ref (B + 43)), (3, .int l3), (4, .int l4), (5, .int l8), (6, .int t0), (7, .int l7)]) X dL_isText_218 (by decide) [1, 2, 3, 4, 5, 0, 6, 7] rfl ?_
        refine r_iinc (v := l7 + 1) (lv' := [(0, .ref (B + 0)), (1, .ref b), (2, .ref (B + 43)), (3, .int l3), (4, .int l4), (5, .int l8), (6, .int t0), (7, .int (l7 + 1))]) (pc := 220) X dL_isText_220 7 rfl rfl (by decide) [1, 2, 3, 4, 5, 6, 7, 0] rfl ?_
        refine r_goto (tgt := 23) (pc := 223) X dL_isText_223 (by decide) ?_
        exact hK23 hc hf
      · refine r_iinc (v := l4 + (-1)) (lv' := [(0, .ref (B + 0)), (1, .ref b), (2, .ref (B + 43)), (3, .int l3), (4, .int (l4 + (-1))), (7, .int l7)]) (pc := 184) X dL_isText_184 4 rfl rfl (by decide) [1, 2, 3, 4, 0, 6] rfl ?_
        refine r_aload_n (x := some 0) (pc := 187) X dL_isText_187 0 rfl ?_
        refine r_aload_n (x := some 43) (pc := 188) X dL_isText_188 2 rfl ?_
        refine r_iload (pc := 189) X dL_isText_189 4 rfl ?_
        refine bnd hf (fun x21 h21 hf => ?_)
        refine ifo hf (fun hz hf => ?_)
        refine y_callXSi (As := [.ref (B + 0), .ref (B + 43), .int (l4 + (-1))]) (st := []) (pc := 191) X M Y hc (c_f_L_typed h21 hc.2) rfl w_884 w_885 w_35 w_886 hdS_L_typed (by decide) hz (Nat.le_of_ble_eq_true rfl) dL_isText_191 rfl (fun hc => ?_)
        refine r_istore (pc := 194) (lv' := [(0, .ref (B + 0)), (1, .ref b), (2, .ref (B + 43)), (3, .int l3), (4, .int (l4 + (-1))), (7, .int l7), (8, .int x21.1)]) X dL_isText_194 (by decide) [1, 2, 3, 4, 5, 6, 0] rfl ?_
        refine r_iload (pc := 196) X dL_isText_196 6 rfl ?_
        refine r_iconst (v := -1) (pc := 198) X dL_isText_198 (by decide) ?_
        refine b_icmp_eq (tgt := 209) (pc := 199) X dL_isText_199 (by decide) hf (fun hf => ?_) (fun hf => ?_)
        · refine r_iconst (v := 1) (pc := 209) X dL_isText_209 (by decide) ?_
          refine r_goto (tgt := 214) (pc := 210) X dL_isText_210 (by decide) ?_
          refine r_istore (pc := 214) (lv' := [(0, .ref (B + 0)), (1, .ref b), (2, .ref (B + 43)), (3, .int l3), (4, .int (l4 + (-1))), (6, .int 1), (7, .int l7), (8, .int x21.1)]) X dL_isText_214 (by decide) [1, 2, 3, 4, 5, 0, 6, 7] rfl ?_
          refine r_iload (pc := 216) X dL_isText_216 7 rfl ?_
          refine r_istore (pc := 218) (lv' := [(0, .ref (B + 0)), (1, .ref b), (2, .ref (B + 43)), (3, .int l3), (4, .int (l4 + (-1))), (5, .int x21.1), (6, .int 1), (7, .int l7)]) X dL_isText_218 (by decide) [1, 2, 3, 4, 5, 0, 6, 7] rfl ?_
          refine r_iinc (v := l7 + 1) (lv' := [(0, .ref (B + 0)), (1, .ref b), (2, .ref (B + 43)), (3, .int l3), (4, .int (l4 + (-1))), (5, .int x21.1), (6, .int 1), (7, .int (l7 + 1))]) (pc := 220) X dL_isText_220 7 rfl rfl (by decide) [1, 2, 3, 4, 5, 6, 7, 0] rfl ?_
          refine r_goto (tgt := 23) (pc := 223) X dL_isText_223 (by decide) ?_
          exact hK23 hc hf
        · refine r_iload (pc := 202) X dL_isText_202 6 rfl ?_
          refine r_iload (pc := 204) X dL_isText_204 4 rfl ?_
          refine b_icmp_ne (tgt := 213) (pc := 206) X dL_isText_206 (by decide) hf (fun hf => ?_) (fun hf => ?_)
          · refine r_iconst (v := 1) (pc := 209) X dL_isText_209 (by decide) ?_
            refine r_goto (tgt := 214) (pc := 210) X dL_isText_210 (by decide) ?_
            refine r_istore (pc := 214) (lv' := [(0, .ref (B + 0)), (1, .ref b), (2, .ref (B + 43)), (3, .int l3), (4, .int (l4 + (-1))), (6, .int 1), (7, .int l7), (8, .int x21.1)]) X dL_isText_214 (by decide) [1, 2, 3, 4, 5, 0, 6, 7] rfl ?_
            refine r_iload (pc := 216) X dL_isText_216 7 rfl ?_
            refine r_istore (pc := 218) (lv' := [(0, .ref (B + 0)), (1, .ref b), (2, .ref (B + 43)), (3, .int l3), (4, .int (l4 + (-1))), (5, .int x21.1), (6, .int 1), (7, .int l7)]) X dL_isText_218 (by decide) [1, 2, 3, 4, 5, 0, 6, 7] rfl ?_
            refine r_iinc (v := l7 + 1) (lv' := [(0, .ref (B + 0)), (1, .ref b), (2, .ref (B + 43)), (3, .int l3), (4, .int (l4 + (-1))), (5, .int x21.1), (6, .int 1), (7, .int (l7 + 1))]) (pc := 220) X dL_isText_220 7 rfl rfl (by decide) [1, 2, 3, 4, 5, 6, 7, 0] rfl ?_
            refine r_goto (tgt := 23) (pc := 223) X dL_isText_223 (by decide) ?_
            exact hK23 hc hf
          · refine r_iconst (v := 0) (pc := 213) X dL_isText_213 (by decide) ?_
            refine r_istore (pc := 214) (lv' := [(0, .ref (B + 0)), (1, .ref b), (2, .ref (B + 43)), (3, .int l3), (4, .int (l4 + (-1))), (6, .int 0), (7, .int l7), (8, .int x21.1)]) X dL_isText_214 (by decide) [1, 2, 3, 4, 5, 0, 6, 7] rfl ?_
            refine r_iload (pc := 216) X dL_isText_216 7 rfl ?_
            refine r_istore (pc := 218) (lv' := [(0, .ref (B + 0)), (1, .ref b), (2, .ref (B + 43)), (3, .int l3), (4, .int (l4 + (-1))), (5, .int x21.1), (6, .int 0), (7, .int l7)]) X dL_isText_218 (by decide) [1, 2, 3, 4, 5, 0, 6, 7] rfl ?_
            refine r_iinc (v := l7 + 1) (lv' := [(0, .ref (B + 0)), (1, .ref b), (2, .ref (B + 43)), (3, .int l3), (4, .int (l4 + (-1))), (5, .int x21.1), (6, .int 0), (7, .int (l7 + 1))]) (pc := 220) X dL_isText_220 7 rfl rfl (by decide) [1, 2, 3, 4, 5, 6, 7, 0] rfl ?_
            refine r_goto (tgt := 23) (pc := 223) X dL_isText_223 (by decide) ?_
            exact hK23 hc hf
    · refine r_iload (pc := 216) X dL_isText_216 7 rfl ?_
      refine r_istore (pc := 218) (lv' := [(0, .ref (B + 0)), (1, .ref b), (2, .ref (B + 43)), (3, .int l3), (4, .int l4), (5, .int l8), (6, .int t0), (7, .int l7)]) X dL_isText_218 (by decide) [1, 2, 3, 4, 5, 0, 6, 7] rfl ?_
      refine r_iinc (v := l7 + 1) (lv' := [(0, .ref (B + 0)), (1, .ref b), (2, .ref (B + 43)), (3, .int l3), (4, .int l4), (5, .int l8), (6, .int t0), (7, .int (l7 + 1))]) (pc := 220) X dL_isText_220 7 rfl rfl (by decide) [1, 2, 3, 4, 5, 6, 7, 0] rfl ?_
      refine r_goto (tgt := 23) (pc := 223) X dL_isText_223 (by decide) ?_
      exact hK23 hc hf
set_option maxHeartbeats 1000000 in
theorem c_f_L_isText_b124 {b L : Nat} {xs : Nat → Int32} {F Z : Nat} {c0 : Nat} {Γ : Ga} {D : DD} {B : Nat} {r : Int32} {s' : St} (X : Cx Γ RL cL_isText 9 D B (RMg Z c0 805 16524)) (M : RLe (RMg Z c0 805 16524) Z 0 0 c0 805 16524) (Y : Xy Γ B) (S : SX Γ B b L xs) (hr : (Gme Γ).sig.returnType = (some .boolean)) {K23 : St → Int32 → Int32 → Int32 → Int32 → Int32 → Option (Int32 × St)} (hK23 : ∀ {s : St} {l3 : Int32} {l4 : Int32} {l5 : Int32} {l6 : Int32} {l7 : Int32}, Hc c0 Z s → K23 s l3 l4 l5 l6 l7 = some (r, s') → V Γ D B true 9 (QX Γ D B true s' (.inl (some (.int r))) (64 * (ct s' - c0)) (768 * (ct s' - c0))) (kg 0 c0 s) (ng 0 c0 s) s 23 [(0, .ref (B + 0)), (1, .ref b), (2, .ref (B + 43)), (3, .int l3), (4, .int l4), (5, .int l5), (6, .int l6), (7, .int l7)] []) {s : St} {l3 : Int32} {l4 : Int32} {l5 : Int32} {l7 : Int32} {l8 : Int32} (hc : Hc c0 Z s) (hf : f_L_isText_b124 L xs F Z K23 s l3 l4 l5 l7 l8 = some (r, s')) : V Γ D B true 9 (QX Γ D B true s' (.inl (some (.int r))) (64 * (ct s' - c0)) (768 * (ct s' - c0))) (kg 0 c0 s) (ng 0 c0 s) s 124 [(0, .ref (B + 0)), (1, .ref b), (2, .ref (B + 43)), (3, .int l3), (4, .int l4), (5, .int l5), (7, .int l7), (8, .int l8)] [] := by
  unfold f_L_isText_b124 at hf
  refine r_iload (pc := 124) X dL_isText_124 7 rfl ?_
  refine b_if_lt (tgt := 145) (pc := 126) X dL_isText_126 (by decide) hf (fun hf => ?_) (fun hf => ?_)
  · refine r_iconst (v := 1) (pc := 145) X dL_isText_145 (by decide) ?_
    refine r_goto (tgt := 150) (pc := 146) X dL_isText_146 (by decide) ?_
    refine r_forget (lv' := [(0, .ref (B + 0)), (1, .ref b), (2, .ref (B + 43)), (3, .int l3), (4, .int l4), (7, .int l7), (8, .int l8)]) [0, 1, 2, 3, 4, 6, 7] rfl ?_
    exact c_f_L_isText_b150 X M Y S hr hK23 hc hf
  · refine r_iload (pc := 129) X dL_isText_129 7 rfl ?_
    refine r_iload (pc := 131) X dL_isText_131 4 rfl ?_
    refine r_iconst (v := 1) (pc := 133) X dL_isText_133 (by decide) ?_
    refine r_isub (pc := 134) X dL_isText_134 ?_
    refine b_icmp_ge (tgt := 145) (pc := 135) X dL_isText_135 (by decide) hf (fun hf => ?_) (fun hf => ?_)
    · refine r_iconst (v := 1) (pc := 145) X dL_isText_145 (by decide) ?_
      refine r_goto (tgt := 150) (pc := 146) X dL_isText_146 (by decide) ?_
      refine r_forget (lv' := [(0, .ref (B + 0)), (1, .ref b), (2, .ref (B + 43)), (3, .int l3), (4, .int l4), (7, .int l7), (8, .int l8)]) [0, 1, 2, 3, 4, 6, 7] rfl ?_
      exact c_f_L_isText_b150 X M Y S hr hK23 hc hf
    · refine r_iload (pc := 138) X dL_isText_138 7 rfl ?_
      refine r_iload (pc := 140) X dL_isText_140 5 rfl ?_
      refine b_icmp_ne (tgt := 149) (pc := 142) X dL_isText_142 (by decide) hf (fun hf => ?_) (fun hf => ?_)
      · refine r_iconst (v := 1) (pc := 145) X dL_isText_145 (by decide) ?_
        refine r_goto (tgt := 150) (pc := 146) X dL_isText_146 (by decide) ?_
        refine r_forget (lv' := [(0, .ref (B + 0)), (1, .ref b), (2, .ref (B + 43)), (3, .int l3), (4, .int l4), (7, .int l7), (8, .int l8)]) [0, 1, 2, 3, 4, 6, 7] rfl ?_
        exact c_f_L_isText_b150 X M Y S hr hK23 hc hf
      · refine r_iconst (v := 0) (pc := 149) X dL_isText_149 (by decide) ?_
        refine r_forget (lv' := [(0, .ref (B + 0)), (1, .ref b), (2, .ref (B + 43)), (3, .int l3), (4, .int l4), (7, .int l7), (8, .int l8)]) [0, 1, 2, 3, 4, 6, 7] rfl ?_
        exact c_f_L_isText_b150 X M Y S hr hK23 hc hf
set_option maxHeartbeats 1000000 in
theorem c_f_L_isText_b74 {b L : Nat} {xs : Nat → Int32} {F Z : Nat} {c0 : Nat} {Γ : Ga} {D : DD} {B : Nat} {r : Int32} {s' : St} (X : Cx Γ RL cL_isText 9 D B (RMg Z c0 805 16524)) (M : RLe (RMg Z c0 805 16524) Z 0 0 c0 805 16524) (Y : Xy Γ B) (S : SX Γ B b L xs) (hr : (Gme Γ).sig.returnType = (some .boolean)) {K23 : St → Int32 → Int32 → Int32 → Int32 → Int32 → Option (Int32 × St)} (hK23 : ∀ {s : St} {l3 : Int32} {l4 : Int32} {l5 : Int32} {l6 : Int32} {l7 : Int32}, Hc c0 Z s → K23 s l3 l4 l5 l6 l7 = some (r, s') → V Γ D B true 9 (QX Γ D B true s' (.inl (some (.int r))) (64 * (ct s' - c0)) (768 * (ct s' - c0))) (kg 0 c0 s) (ng 0 c0 s) s 23 [(0, .ref (B + 0)), (1, .ref b), (2, .ref (B + 43)), (3, .int l3), (4, .int l4), (5, .int l5), (6, .int l6), (7, .int l7)] []) {s : St} {l3 : Int32} {l4 : Int32} {l5 : Int32} {l7 : Int32} {t0 : Int32} (hc : Hc c0 Z s) (hf : f_L_isText_b74 L xs F Z K23 s l3 l4 l5 l7 t0 = some (r, s')) : V Γ D B true 9 (QX Γ D B true s' (.inl (some (.int r))) (64 * (ct s' - c0)) (768 * (ct s' - c0))) (kg 0 c0 s) (ng 0 c0 s) s 74 [(0, .ref (B + 0)), (1, .ref b), (2, .ref (B + 43)), (3, .int l3), (4, .int l4), (5, .int l5), (7, .int l7)] [.int t0] := by
  unfold f_L_isText_b74 at hf
  refine r_istore (pc := 74) (lv' := [(0, .ref (B + 0)), (1, .ref b), (2, .ref (B + 43)), (3, .int l3), (4, .int l4), (5, .int l5), (6, .int t0), (7, .int l7)]) X dL_isText_74 (by decide) [1, 2, 3, 4, 5, 6, 0, 7] rfl ?_
  refine r_iinc (v := l4 + 1) (lv' := [(0, .ref (B + 0)), (1, .ref b), (2, .ref (B + 43)), (3, .int l3), (4, .int (l4 + 1)), (5, .int l5), (6, .int t0), (7, .int l7)]) (pc := 76) X dL_isText_76 4 rfl rfl (by decide) [1, 2, 3, 4, 0, 5, 6, 7] rfl ?_
  refine r_aload_n (x := some 0) (pc := 79) X dL_isText_79 0 rfl ?_
  refine bnd hf (fun x18 h18 hf => ?_)
  refine bnd hf (fun v19 h18v hf => ?_)
  refine y_callXVi (As := []) (st := []) (pc := 80) X M Y hc (qd_run (ou := ouI) (fun z x h => c_f_P_errorAt h) h18) rfl w_876 w_877 w_878 w_36 w_879 hdV_X10_errorAt (Rc.s rfl ce_0) (by decide) (Nat.le_of_ble_eq_true rfl) dL_isText_80 rfl h18v (fun hc => ?_)
  refine r_istore (pc := 83) (lv' := [(0, .ref (B + 0)), (1, .ref b), (2, .ref (B + 43)), (3, .int l3), (4, .int (l4 + 1)), (5, .int l5), (6, .int t0), (7, .int l7), (8, .int v19)]) X dL_isText_83 (by decide) [1, 2, 3, 4, 5, 6, 7, 8, 0] rfl ?_
  refine r_iload (pc := 85) X dL_isText_85 6 rfl ?_
  refine b_if_eq (tgt := 149) (pc := 87) X dL_isText_87 (by decide) hf (fun hf => ?_) (fun hf => ?_)
  · refine r_iconst (v := 0) (pc := 149) X dL_isText_149 (by decide) ?_
    refine r_forget (lv' := [(0, .ref (B + 0)), (1, .ref b), (2, .ref (B + 43)), (3, .int l3), (4, .int (l4 + 1)), (7, .int l7), (8, .int v19)]) [0, 1, 2, 3, 4, 7, 8] rfl ?_
    exact c_f_L_isText_b150 X M Y S hr hK23 hc hf
  · refine r_iload (pc := 90) X dL_isText_90 8 rfl ?_
    refine r_iconst (v := -1) (pc := 92) X dL_isText_92 (by decide) ?_
    refine b_icmp_lt (tgt := 149) (pc := 93) X dL_isText_93 (by decide) hf (fun hf => ?_) (fun hf => ?_)
    · refine r_iconst (v := 0) (pc := 149) X dL_isText_149 (by decide) ?_
      refine r_forget (lv' := [(0, .ref (B + 0)), (1, .ref b), (2, .ref (B + 43)), (3, .int l3), (4, .int (l4 + 1)), (7, .int l7), (8, .int v19)]) [0, 1, 2, 3, 4, 7, 8] rfl ?_
      exact c_f_L_isText_b150 X M Y S hr hK23 hc hf
    · refine r_iload (pc := 96) X dL_isText_96 8 rfl ?_
      refine r_iload (pc := 98) X dL_isText_98 4 rfl ?_
      refine b_icmp_gt (tgt := 149) (pc := 100) X dL_isText_100 (by decide) hf (fun hf => ?_) (fun hf => ?_)
      · refine r_iconst (v := 0) (pc := 149) X dL_isText_149 (by decide) ?_
        refine r_forget (lv' := [(0, .ref (B + 0)), (1, .ref b), (2, .ref (B + 43)), (3, .int l3), (4, .int (l4 + 1)), (7, .int l7), (8, .int v19)]) [0, 1, 2, 3, 4, 7, 8] rfl ?_
        exact c_f_L_isText_b150 X M Y S hr hK23 hc hf
      · refine r_iload (pc := 103) X dL_isText_103 5 rfl ?_
        refine b_if_lt (tgt := 124) (pc := 105) X dL_isText_105 (by decide) hf (fun hf => ?_) (fun hf => ?_)
        · refine r_forget (lv' := [(0, .ref (B + 0)), (1, .ref b), (2, .ref (B + 43)), (3, .int l3), (4, .int (l4 + 1)), (5, .int l5), (7, .int l7), (8, .int v19)]) [0, 1, 2, 3, 4, 5, 7, 8] rfl ?_
          exact c_f_L_isText_b124 X M Y S hr hK23 hc hf
        · refine r_iload (pc := 108) X dL_isText_108 5 rfl ?_
          refine r_iload (pc := 110) X dL_isText_110 4 rfl ?_
          refine r_iconst (v := 1) (pc := 112) X dL_isText_112 (by decide) ?_
          refine r_isub (pc := 113) X dL_isText_113 ?_
          refine b_icmp_eq (tgt := 124) (pc := 114) X dL_isText_114 (by decide) hf (fun hf => ?_) (fun hf => ?_)
          · refine r_forget (lv' := [(0, .ref (B + 0)), (1, .ref b), (2, .ref (B + 43)), (3, .int l3), (4, .int (l4 + 1)), (5, .int l5), (7, .int l7), (8, .int v19)]) [0, 1, 2, 3, 4, 5, 7, 8] rfl ?_
            exact c_f_L_isText_b124 X M Y S hr hK23 hc hf
          · refine r_iload (pc := 117) X dL_isText_117 8 rfl ?_
            refine r_iload (pc := 119) X dL_isText_119 5 rfl ?_
            refine b_icmp_ne (tgt := 149) (pc := 121) X dL_isText_121 (by decide) hf (fun hf => ?_) (fun hf => ?_)
            · refine r_forget (lv' := [(0, .ref (B + 0)), (1, .ref b), (2, .ref (B + 43)), (3, .int l3), (4, .int (l4 + 1)), (5, .int l5), (7, .int l7), (8, .int v19)]) [0, 1, 2, 3, 4, 5, 7, 8] rfl ?_
              exact c_f_L_isText_b124 X M Y S hr hK23 hc hf
            · refine r_iconst (v := 0) (pc := 149) X dL_isText_149 (by decide) ?_
              refine r_forget (lv' := [(0, .ref (B + 0)), (1, .ref b), (2, .ref (B + 43)), (3, .int l3), (4, .int (l4 + 1)), (7, .int l7), (8, .int v19)]) [0, 1, 2, 3, 4, 7, 8] rfl ?_
              exact c_f_L_isText_b150 X M Y S hr hK23 hc hf
set_option maxHeartbeats 1000000 in
theorem c_f_L_isText_b23 {b L : Nat} {xs : Nat → Int32} {F Z : Nat} {c0 : Nat} {Γ : Ga} {D : DD} {B : Nat} {r : Int32} {s' : St} (X : Cx Γ RL cL_isText 9 D B (RMg Z c0 805 16524)) (M : RLe (RMg Z c0 805 16524) Z 0 0 c0 805 16524) (Y : Xy Γ B) (S : SX Γ B b L xs) (hr : (Gme Γ).sig.returnType = (some .boolean)) : ∀ (n : Nat) {s : St} {l3 : Int32} {l4 : Int32} {l5 : Int32} {l6 : Int32} {l7 : Int32}, Hc c0 Z s → f_L_isText_b23 L xs F Z n s l3 l4 l5 l6 l7 = some (r, s') → V Γ D B true 9 (QX Γ D B true s' (.inl (some (.int r))) (64 * (ct s' - c0)) (768 * (ct s' - c0))) (kg 0 c0 s) (ng 0 c0 s) s 23 [(0, .ref (B + 0)), (1, .ref b), (2, .ref (B + 43)), (3, .int l3), (4, .int l4), (5, .int l5), (6, .int l6), (7, .int l7)] [] := by
  intro n
  induction n with
  | zero => intro s l3 l4 l5 l6 l7 hc hf; rw [f_L_isText_b23] at hf; cases hf
  | succ n ih =>
    intro s l3 l4 l5 l6 l7 hc hf
    rw [f_L_isText_b23] at hf
    refine r_iload (pc := 23) X dL_isText_23 7 rfl ?_
    refine r_bipush (v := 26) (pc := 25) X dL_isText_25 (by decide) ?_
    refine b_icmp_ge (tgt := 226) (pc := 27) X dL_isText_27 (by decide) hf (fun hf => ?_) (fun hf => ?_)
    · refine r_forget (lv' := [(0, .ref (B + 0)), (5, .int l5), (6, .int l6)]) [0, 5, 6] rfl ?_
      exact c_f_L_isText_b226 X M Y S hr hc hf
    · refine r_iload (pc := 30) X dL_isText_30 6 rfl ?_
      refine b_if_eq (tgt := 226) (pc := 32) X dL_isText_32 (by decide) hf (fun hf => ?_) (fun hf => ?_)
      · refine r_forget (lv' := [(0, .ref (B + 0)), (5, .int l5), (6, .int l6)]) [0, 5, 6] rfl ?_
        exact c_f_L_isText_b226 X M Y S hr hc hf
      · refine r_aload_n (x := some 43) (pc := 35) X dL_isText_35 2 rfl ?_
        refine r_iload (pc := 36) X dL_isText_36 4 rfl ?_
        refine s_aload_n (pc := 38) X dL_isText_38 1 rfl ?_
        refine r_iload_n (pc := 39) X dL_isText_39 3 rfl ?_
        refine r_iload (pc := 40) X dL_isText_40 7 rfl ?_
        refine r_iadd (pc := 42) X dL_isText_42 ?_
        refine bnd hf (fun x11 h11 hf => ?_)
        refine ifo hf (fun hz hf => ?_)
        refine y_callTSi (As := [.ref b, .int (l3 + l7)]) (st := [.int l4, .ref (B + 43)]) (pc := 43) X M Y S hc (c_f_L_dice h11 hc.2) rfl w_432 w_433 w_35 w_434 hdS_L_dice (by decide) hz (Nat.le_of_ble_eq_true rfl) dL_isText_43 rfl (fun hc => ?_)
        refine bnd hf (fun x12 h12 hf => ?_)
        refine y_callSi (As := [.int x11.1]) (st := [.int l4, .ref (B + 43)]) (pc := 46) X M hc (c_f_L_code h12) rfl w_873 w_874 w_35 w_875 hdS_L_code (by decide) (Nat.le_of_ble_eq_true rfl) dL_isText_46 rfl hf (fun s13 hc hf => ?_)
        refine y_iast (pc := 49) X ce_43 (fun _ => ca_43 _ _) dL_isText_49 hf (fun j14 s15 e9 hf => ?_)
        have hc := hc.eq e9
        refine r_aload_n (x := some 0) (pc := 50) X dL_isText_50 0 rfl ?_
        refine r_iconst (v := 0) (pc := 51) X dL_isText_51 (by decide) ?_
        refine r_aload_n (x := some 43) (pc := 52) X dL_isText_52 2 rfl ?_
        refine r_iload (pc := 53) X dL_isText_53 4 rfl ?_
        refine b_iald (pc := 55) X ce_43 dL_isText_55 hf (fun j16 hf => ?_)
        refine r_iconst (v := 0) (pc := 56) X dL_isText_56 (by decide) ?_
        refine r_iconst (v := 0) (pc := 57) X dL_isText_57 (by decide) ?_
        refine r_iconst (v := 0) (pc := 58) X dL_isText_58 (by decide) ?_
        refine bnd hf (fun x17 h17 hf => ?_)
        refine ifo hf (fun hz hf => ?_)
        refine y_callWSi (As := [.ref (B + 0), .int 0, .int (gA s15 43 j16), .int 0, .int 0, .int 0]) (st := []) (pc := 59) X M Y hc (c_f_L_act h17 hc.2) rfl w_437 w_438 w_35 w_439 hdS_L_act (by decide) hz (Nat.le_of_ble_eq_true rfl) dL_isText_59 rfl (fun hc => ?_)
        refine r_iload (pc := 62) X dL_isText_62 4 rfl ?_
        refine r_iconst (v := 1) (pc := 64) X dL_isText_64 (by decide) ?_
        refine r_iadd (pc := 65) X dL_isText_65 ?_
        refine b_icmp_ne (tgt := 73) (pc := 66) X dL_isText_66 (by decide) hf (fun hf => ?_) (fun hf => ?_)
        · refine r_iconst (v := 1) (pc := 69) X dL_isText_69 (by decide) ?_
          refine r_goto (tgt := 74) (pc := 70) X dL_isText_70 (by decide) ?_
          refine r_forget (lv' := [(0, .ref (B + 0)), (1, .ref b), (2, .ref (B + 43)), (3, .int l3), (4, .int l4), (5, .int l5), (7, .int l7)]) [0, 1, 2, 3, 4, 5, 7] rfl ?_
          exact c_f_L_isText_b74 X M Y S hr (fun hc hf => ih hc hf) hc hf
        · refine r_iconst (v := 0) (pc := 73) X dL_isText_73 (by decide) ?_
          refine r_forget (lv' := [(0, .ref (B + 0)), (1, .ref b), (2, .ref (B + 43)), (3, .int l3), (4, .int l4), (5, .int l5), (7, .int l7)]) [0, 1, 2, 3, 4, 5, 7] rfl ?_
          exact c_f_L_isText_b74 X M Y S hr (fun hc hf => ih hc hf) hc hf
set_option maxHeartbeats 1000000 in
theorem c_f_L_isText {b L : Nat} {xs : Nat → Int32} {F Z : Nat} {s : St} {p3 : Int32} {r : Int32} {s' : St} (hf : f_L_isText L xs F Z s p3 = some (r, s')) (hz : ct s ≤ Z) : CXs b L xs true yL_isText (Cond.code yL_isText cL_isText 9 (some .boolean)) 805 16524 (64 * (Z - ct s)) (768 * (Z - ct s)) (fun B => [.ref (B + 0), .ref b, .ref (B + 43), .int p3]) s (fun B => .inl (some (.int r))) s' (64 * (ct s' - ct s)) (768 * (ct s' - ct s)) := by
  refine CXs.ofL (fun B => [(0, .ref (B + 0)), (1, .ref b), (2, .ref (B + 43)), (3, .int p3)]) (by decide +kernel) (fun _ => rfl) (fun _ => (by simp [lg_sl, rfB_cat, catI, catL, catR])) (fun Γ D B X Y S hr => ?_)
  have X : Cx Γ RL cL_isText 9 D B (RMg Z (ct s) 805 16524) := X
  have M : RLe (RMg Z (ct s) 805 16524) Z 0 0 (ct s) 805 16524 := RLe.rf
  have hc : Hc (ct s) Z s := ⟨Nat.le_refl _, hz⟩
  unfold f_L_isText at hf
  refine r_iconst (v := 0) (pc := 0) X dL_isText_0 (by decide) ?_
  refine r_istore (pc := 1) (lv' := [(0, .ref (B + 0)), (1, .ref b), (2, .ref (B + 43)), (3, .int p3), (4, .int 0)]) X dL_isText_1 (by decide) [1, 2, 3, 4, 0] rfl ?_
  refine r_iconst (v := 0) (pc := 3) X dL_isText_3 (by decide) ?_
  refine r_istore (pc := 4) (lv' := [(0, .ref (B + 0)), (1, .ref b), (2, .ref (B + 43)), (3, .int p3), (4, .int 0), (5, .int 0)]) X dL_isText_4 (by decide) [1, 2, 3, 4, 5, 0] rfl ?_
  refine r_aload_n (x := some 0) (pc := 6) X dL_isText_6 0 rfl ?_
  refine bnd hf (fun x1 h1 hf => ?_)
  refine y_callVi (As := []) (st := []) (pc := 7) X M hc (c_f_P_clearText h1) rfl w_869 w_870 w_871 w_36 w_872 hdV_X10_clearText (Rc.s rfl ce_0) (by decide) (Nat.le_of_ble_eq_true rfl) dL_isText_7 rfl hf (fun s2 hc hf => ?_)
  refine b_if_lt (tgt := 17) (pc := 10) X dL_isText_10 (by decide) hf (fun hf => ?_) (fun hf => ?_)
  · refine r_iconst (v := 0) (pc := 17) X dL_isText_17 (by decide) ?_
    refine r_istore (pc := 18) (lv' := [(0, .ref (B + 0)), (1, .ref b), (2, .ref (B + 43)), (3, .int p3), (4, .int 0), (5, .int 0), (6, .int 0)]) X dL_isText_18 (by decide) [1, 2, 3, 4, 5, 6, 0] rfl ?_
    refine r_iconst (v := 0) (pc := 20) X dL_isText_20 (by decide) ?_
    refine r_istore (pc := 21) (lv' := [(0, .ref (B + 0)), (1, .ref b), (2, .ref (B + 43)), (3, .int p3), (4, .int 0), (5, .int 0), (6, .int 0), (7, .int 0)]) X dL_isText_21 (by decide) [1, 2, 3, 4, 5, 6, 7, 0] rfl ?_
    exact c_f_L_isText_b23 X M Y S hr _ hc hf
  · refine r_iconst (v := 1) (pc := 13) X dL_isText_13 (by decide) ?_
    refine r_goto (tgt := 18) (pc := 14) X dL_isText_14 (by decide) ?_
    refine r_istore (pc := 18) (lv' := [(0, .ref (B + 0)), (1, .ref b), (2, .ref (B + 43)), (3, .int p3), (4, .int 0), (5, .int 0), (6, .int 1)]) X dL_isText_18 (by decide) [1, 2, 3, 4, 5, 6, 0] rfl ?_
    refine r_iconst (v := 0) (pc := 20) X dL_isText_20 (by decide) ?_
    refine r_istore (pc := 21) (lv' := [(0, .ref (B + 0)), (1, .ref b), (2, .ref (B + 43)), (3, .int p3), (4, .int 0), (5, .int 0), (6, .int 1), (7, .int 0)]) X dL_isText_21 (by decide) [1, 2, 3, 4, 5, 6, 7, 0] rfl ?_
    exact c_f_L_isText_b23 X M Y S hr _ hc hf
