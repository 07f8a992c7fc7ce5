/-! f_L_areAlarms -/
theorem dL_areAlarms_0 : decode cL_areAlarms 0 = .ok (.sipush (-1000), 3) := by decide +kernel
theorem dL_areAlarms_3 : decode cL_areAlarms 3 = .ok (.istore 4, 2) := by decide +kernel
theorem dL_areAlarms_5 : decode cL_areAlarms 5 = .ok (.iconst 0, 1) := by decide +kernel
theorem dL_areAlarms_6 : decode cL_areAlarms 6 = .ok (.istore 5, 2) := by decide +kernel
theorem dL_areAlarms_8 : decode cL_areAlarms 8 = .ok (.iconst 1, 1) := by decide +kernel
theorem dL_areAlarms_9 : decode cL_areAlarms 9 = .ok (.istore 6, 2) := by decide +kernel
theorem dL_areAlarms_11 : decode cL_areAlarms 11 = .ok (.iconst 0, 1) := by decide +kernel
theorem dL_areAlarms_12 : decode cL_areAlarms 12 = .ok (.istore 7, 2) := by decide +kernel
theorem dL_areAlarms_14 : decode cL_areAlarms 14 = .ok (.iload 7, 2) := by decide +kernel
theorem dL_areAlarms_16 : decode cL_areAlarms 16 = .ok (.aload_n 0, 1) := by decide +kernel
theorem dL_areAlarms_17 : decode cL_areAlarms 17 = .ok (.invokevirtual 108, 3) := by decide +kernel
theorem dL_areAlarms_20 : decode cL_areAlarms 20 = .ok (.if_icmp .ge 158, 3) := by decide +kernel
theorem dL_areAlarms_23 : decode cL_areAlarms 23 = .ok (.iload 6, 2) := by decide +kernel
theorem dL_areAlarms_25 : decode cL_areAlarms 25 = .ok (.ifCond .eq 153, 3) := by decide +kernel
theorem dL_areAlarms_28 : decode cL_areAlarms 28 = .ok (.aload_n 0, 1) := by decide +kernel
theorem dL_areAlarms_29 : decode cL_areAlarms 29 = .ok (.iload 7, 2) := by decide +kernel
theorem dL_areAlarms_31 : decode cL_areAlarms 31 = .ok (.invokevirtual 88, 3) := by decide +kernel
theorem dL_areAlarms_34 : decode cL_areAlarms 34 = .ok (.sipush 10000, 3) := by decide +kernel
theorem dL_areAlarms_37 : decode cL_areAlarms 37 = .ok (.irem, 1) := by decide +kernel
theorem dL_areAlarms_38 : decode cL_areAlarms 38 = .ok (.istore 8, 2) := by decide +kernel
theorem dL_areAlarms_40 : decode cL_areAlarms 40 = .ok (.aload_n 0, 1) := by decide +kernel
theorem dL_areAlarms_41 : decode cL_areAlarms 41 = .ok (.iload 7, 2) := by decide +kernel
theorem dL_areAlarms_43 : decode cL_areAlarms 43 = .ok (.invokevirtual 88, 3) := by decide +kernel
theorem dL_areAlarms_46 : decode cL_areAlarms 46 = .ok (.sipush 10000, 3) := by decide +kernel
theorem dL_areAlarms_49 : decode cL_areAlarms 49 = .ok (.idiv, 1) := by decide +kernel
theorem dL_areAlarms_50 : decode cL_areAlarms 50 = .ok (.iload_n 3, 1) := by decide +kernel
theorem dL_areAlarms_51 : decode cL_areAlarms 51 = .ok (.if_icmp .ne 7, 3) := by decide +kernel
theorem dL_areAlarms_54 : decode cL_areAlarms 54 = .ok (.iconst 1, 1) := by decide +kernel
theorem dL_areAlarms_55 : decode cL_areAlarms 55 = .ok (.goto 4, 3) := by decide +kernel
theorem dL_areAlarms_58 : decode cL_areAlarms 58 = .ok (.iconst 0, 1) := by decide +kernel
theorem dL_areAlarms_59 : decode cL_areAlarms 59 = .ok (.istore 9, 2) := by decide +kernel
theorem dL_areAlarms_61 : decode cL_areAlarms 61 = .ok (.iload 9, 2) := by decide +kernel
theorem dL_areAlarms_63 : decode cL_areAlarms 63 = .ok (.ifCond .eq 19, 3) := by decide +kernel
theorem dL_areAlarms_66 : decode cL_areAlarms 66 = .ok (.iload 8, 2) := by decide +kernel
theorem dL_areAlarms_68 : decode cL_areAlarms 68 = .ok (.iload 4, 2) := by decide +kernel
theorem dL_areAlarms_70 : decode cL_areAlarms 70 = .ok (.isub, 1) := by decide +kernel
theorem dL_areAlarms_71 : decode cL_areAlarms 71 = .ok (.aload_n 1, 1) := by decide +kernel
theorem dL_areAlarms_72 : decode cL_areAlarms 72 = .ok (.bipush 12, 2) := by decide +kernel
theorem dL_areAlarms_74 : decode cL_areAlarms 74 = .ok (.iload_n 3, 1) := by decide +kernel
theorem dL_areAlarms_75 : decode cL_areAlarms 75 = .ok (.imul, 1) := by decide +kernel
theorem dL_areAlarms_76 : decode cL_areAlarms 76 = .ok (.iconst 2, 1) := by decide +kernel
theorem dL_areAlarms_77 : decode cL_areAlarms 77 = .ok (.iadd, 1) := by decide +kernel
theorem dL_areAlarms_78 : decode cL_areAlarms 78 = .ok (.iaload, 1) := by decide +kernel
theorem dL_areAlarms_79 : decode cL_areAlarms 79 = .ok (.if_icmp .le 7, 3) := by decide +kernel
theorem dL_areAlarms_82 : decode cL_areAlarms 82 = .ok (.iconst 1, 1) := by decide +kernel
theorem dL_areAlarms_83 : decode cL_areAlarms 83 = .ok (.goto 4, 3) := by decide +kernel
theorem dL_areAlarms_86 : decode cL_areAlarms 86 = .ok (.iconst 0, 1) := by decide +kernel
theorem dL_areAlarms_87 : decode cL_areAlarms 87 = .ok (.istore 6, 2) := by decide +kernel
theorem dL_areAlarms_89 : decode cL_areAlarms 89 = .ok (.iload 9, 2) := by decide +kernel
theorem dL_areAlarms_91 : decode cL_areAlarms 91 = .ok (.ifCond .eq 8, 3) := by decide +kernel
theorem dL_areAlarms_94 : decode cL_areAlarms 94 = .ok (.iload 8, 2) := by decide +kernel
theorem dL_areAlarms_96 : decode cL_areAlarms 96 = .ok (.goto 5, 3) := by decide +kernel
theorem dL_areAlarms_99 : decode cL_areAlarms 99 = .ok (.iload 4, 2) := by decide +kernel
theorem dL_areAlarms_101 : decode cL_areAlarms 101 = .ok (.istore 4, 2) := by decide +kernel
theorem dL_areAlarms_103 : decode cL_areAlarms 103 = .ok (.iload 5, 2) := by decide +kernel
theorem dL_areAlarms_105 : decode cL_areAlarms 105 = .ok (.iload 9, 2) := by decide +kernel
theorem dL_areAlarms_107 : decode cL_areAlarms 107 = .ok (.ifCond .eq 7, 3) := by decide +kernel
theorem dL_areAlarms_110 : decode cL_areAlarms 110 = .ok (.iconst 1, 1) := by decide +kernel
theorem dL_areAlarms_111 : decode cL_areAlarms 111 = .ok (.goto 4, 3) := by decide +kernel
theorem dL_areAlarms_114 : decode cL_areAlarms 114 = .ok (.iconst 0, 1) := by decide +kernel
theorem dL_areAlarms_115 : decode cL_areAlarms 115 = .ok (.iadd, 1) := by decide +kernel
theorem dL_areAlarms_116 : decode cL_areAlarms 116 = .ok (.istore 5, 2) := by decide +kernel
theorem dL_areAlarms_118 : decode cL_areAlarms 118 = .ok (.iload 6, 2) := by decide +kernel
theorem dL_areAlarms_120 : decode cL_areAlarms 120 = .ok (.ifCond .eq 49, 3) := by decide +kernel
theorem dL_areAlarms_123 : decode cL_areAlarms 123 = .ok (.aload_n 0, 1) := by decide +kernel
theorem dL_areAlarms_124 : decode cL_areAlarms 124 = .ok (.iload 7, 2) := by decide +kernel
theorem dL_areAlarms_126 : decode cL_areAlarms 126 = .ok (.invokevirtual 91, 3) := by decide +kernel
theorem dL_areAlarms_129 : decode cL_areAlarms 129 = .ok (.ifCond .lt 36, 3) := by decide +kernel
theorem dL_areAlarms_132 : decode cL_areAlarms 132 = .ok (.aload_n 0, 1) := by decide +kernel
theorem dL_areAlarms_133 : decode cL_areAlarms 133 = .ok (.aload_n 0, 1) := by decide +kernel
theorem dL_areAlarms_134 : decode cL_areAlarms 134 = .ok (.iload 7, 2) := by decide +kernel
theorem dL_areAlarms_136 : decode cL_areAlarms 136 = .ok (.invokevirtual 94, 3) := by decide +kernel
theorem dL_areAlarms_139 : decode cL_areAlarms 139 = .ok (.bipush 8, 2) := by decide +kernel
theorem dL_areAlarms_141 : decode cL_areAlarms 141 = .ok (.idiv, 1) := by decide +kernel
theorem dL_areAlarms_142 : decode cL_areAlarms 142 = .ok (.invokevirtual 69, 3) := by decide +kernel
theorem dL_areAlarms_145 : decode cL_areAlarms 145 = .ok (.aload_n 0, 1) := by decide +kernel
theorem dL_areAlarms_146 : decode cL_areAlarms 146 = .ok (.iload 7, 2) := by decide +kernel
theorem dL_areAlarms_148 : decode cL_areAlarms 148 = .ok (.invokevirtual 91, 3) := by decide +kernel
theorem dL_areAlarms_151 : decode cL_areAlarms 151 = .ok (.if_icmp .ne 18, 3) := by decide +kernel
theorem dL_areAlarms_154 : decode cL_areAlarms 154 = .ok (.aload_n 0, 1) := by decide +kernel
theorem dL_areAlarms_155 : decode cL_areAlarms 155 = .ok (.iload 7, 2) := by decide +kernel
theorem dL_areAlarms_157 : decode cL_areAlarms 157 = .ok (.invokevirtual 94, 3) := by decide +kernel
theorem dL_areAlarms_160 : decode cL_areAlarms 160 = .ok (.iload 8, 2) := by decide +kernel
theorem dL_areAlarms_162 : decode cL_areAlarms 162 = .ok (.if_icmp .lt 7, 3) := by decide +kernel
theorem dL_areAlarms_165 : decode cL_areAlarms 165 = .ok (.iconst 1, 1) := by decide +kernel
theorem dL_areAlarms_166 : decode cL_areAlarms 166 = .ok (.goto 4, 3) := by decide +kernel
theorem dL_areAlarms_169 : decode cL_areAlarms 169 = .ok (.iconst 0, 1) := by decide +kernel
theorem dL_areAlarms_170 : decode cL_areAlarms 170 = .ok (.istore 6, 2) := by decide +kernel
theorem dL_areAlarms_172 : decode cL_areAlarms 172 = .ok (.iinc 7 1, 3) := by decide +kernel
theorem dL_areAlarms_175 : decode cL_areAlarms 175 = .ok (.goto (-161), 3) := by decide +kernel
theorem dL_areAlarms_178 : decode cL_areAlarms 178 = .ok (.iload 6, 2) := by decide +kernel
theorem dL_areAlarms_180 : decode cL_areAlarms 180 = .ok (.ifCond .eq 17, 3) := by decide +kernel
theorem dL_areAlarms_183 : decode cL_areAlarms 183 = .ok (.aload_n 0, 1) := by decide +kernel
theorem dL_areAlarms_184 : decode cL_areAlarms 184 = .ok (.iload_n 3, 1) := by decide +kernel
theorem dL_areAlarms_185 : decode cL_areAlarms 185 = .ok (.invokevirtual 82, 3) := by decide +kernel
theorem dL_areAlarms_188 : decode cL_areAlarms 188 = .ok (.iload 5, 2) := by decide +kernel
theorem dL_areAlarms_190 : decode cL_areAlarms 190 = .ok (.if_icmp .ne 7, 3) := by decide +kernel
theorem dL_areAlarms_193 : decode cL_areAlarms 193 = .ok (.iconst 1, 1) := by decide +kernel
theorem dL_areAlarms_194 : decode cL_areAlarms 194 = .ok (.goto 4, 3) := by decide +kernel
theorem dL_areAlarms_197 : decode cL_areAlarms 197 = .ok (.iconst 0, 1) := by decide +kernel
theorem dL_areAlarms_198 : decode cL_areAlarms 198 = .ok (.ireturn, 1) := by decide +kernel
def f_L_areAlarms_b115 (F Z : Nat) (K14 : St → Int32 → Int32 → Int32 → Int32 → Int32 → Option (Int32 × St)) (s : St) (l3 : Int32) (l4 : Int32) (l6 : Int32) (l7 : Int32) (l8 : Int32) (t0 : Int32) (t1 : Int32) : Option (Int32 × St) :=
  if l6 = 0 then
    (K14 s l3 l4 (t0 + t1) 0 (l7 + 1))
  else
    ((qc Z s (fun z => f_P_woken F z s l7)).bind fun x11 => ((an x11.1).bind fun v12 => (if v12 < 0 then
      (K14 x11.2 l3 l4 (t0 + t1) 1 (l7 + 1))
    else
      ((qc Z x11.2 (fun z => f_P_wokenAt F z x11.2 l7)).bind fun x13 => ((an x13.1).bind fun v14 => ((qc Z x13.2 (fun z => f_P_holder F z x13.2 (v14 / 8))).bind fun x15 => ((an x15.1).bind fun v16 => ((qc Z x15.2 (fun z => f_P_woken F z x15.2 l7)).bind fun x17 => ((an x17.1).bind fun v18 => (if v16 = v18 then
        ((qc Z x17.2 (fun z => f_P_wokenAt F z x17.2 l7)).bind fun x19 => ((an x19.1).bind fun v20 => (if v20 < l8 then
          (K14 x19.2 l3 l4 (t0 + t1) 0 (l7 + 1))
        else
          (K14 x19.2 l3 l4 (t0 + t1) 1 (l7 + 1)))))
      else
        (K14 x17.2 l3 l4 (t0 + t1) 0 (l7 + 1))))))))))))
def f_L_areAlarms_b87 (F Z : Nat) (K14 : St → Int32 → Int32 → Int32 → Int32 → Int32 → Option (Int32 × St)) (s : St) (l3 : Int32) (l4 : Int32) (l5 : Int32) (l7 : Int32) (l8 : Int32) (l9 : Int32) (t0 : Int32) : Option (Int32 × St) :=
  if l9 = 0 then
    (if l9 = 0 then
      (f_L_areAlarms_b115 F Z K14 s l3 l4 t0 l7 l8 l5 0)
    else
      (f_L_areAlarms_b115 F Z K14 s l3 l4 t0 l7 l8 l5 1))
  else
    (if l9 = 0 then
      (f_L_areAlarms_b115 F Z K14 s l3 l8 t0 l7 l8 l5 0)
    else
      (f_L_areAlarms_b115 F Z K14 s l3 l8 t0 l7 l8 l5 1))
def f_L_areAlarms_b59 (F Z : Nat) (K14 : St → Int32 → Int32 → Int32 → Int32 → Int32 → Option (Int32 × St)) (s : St) (l3 : Int32) (l4 : Int32) (l5 : Int32) (l7 : Int32) (l8 : Int32) (t0 : Int32) : Option (Int32 × St) :=
  if t0 = 0 then
    (f_L_areAlarms_b87 F Z K14 s l3 l4 l5 l7 l8 t0 1)
  else
    ((ix 48 (((12 : Int32) * l3) + 2)).bind fun j21 => (if (l8 - l4) ≤ (gA s 42 j21) then
      (f_L_areAlarms_b87 F Z K14 s l3 l4 l5 l7 l8 t0 0)
    else
      (f_L_areAlarms_b87 F Z K14 s l3 l4 l5 l7 l8 t0 1)))
def f_L_areAlarms_b14 (F Z : Nat) : Nat → St → Int32 → Int32 → Int32 → Int32 → Int32 → Option (Int32 × St)
  | 0, _, _, _, _, _, _ => none
  | n + 1, s, l3, l4, l5, l6, l7 =>
    (f_P_alarms F s).bind fun x1 => (lt (kb s x1.2 0) fun s2 => (if x1.1 ≤ l7 then
      (if l6 = 0 then
        (some (0, s2))
      else
        ((qc Z s2 (fun z => f_P_rises F z s2 l3)).bind fun x3 => ((an x3.1).bind fun v4 => (if v4 = l5 then
          (some (1, x3.2))
        else
          (some (0, x3.2))))))
    else
      (if l6 = 0 then
        (if l6 = 0 then
          (some (0, s2))
        else
          ((qc Z s2 (fun z => f_P_rises F z s2 l3)).bind fun x5 => ((an x5.1).bind fun v6 => (if v6 = l5 then
            (some (1, x5.2))
          else
            (some (0, x5.2))))))
      else
        ((qc Z s2 (fun z => f_P_alarm F z s2 l7)).bind fun x7 => ((an x7.1).bind fun v8 => ((qc Z x7.2 (fun z => f_P_alarm F z x7.2 l7)).bind fun x9 => ((an x9.1).bind fun v10 => (if (v10 / 10000) = l3 then
          (f_L_areAlarms_b59 F Z (f_L_areAlarms_b14 F Z n) x9.2 l3 l4 l5 l7 (v8 - v8 / 10000 * 10000) 1)
        else
          (f_L_areAlarms_b59 F Z (f_L_areAlarms_b14 F Z n) x9.2 l3 l4 l5 l7 (v8 - v8 / 10000 * 10000) 0)))))))))
def f_L_areAlarms (F Z : Nat) (s : St) (p3 : Int32) : Option (Int32 × St) :=
  f_L_areAlarms_b14 F Z F s p3 (-1000) 0 1 0
set_option maxHeartbeats 1000000 in
theorem c_f_L_areAlarms_b115 {F Z : Nat} {c0 : Nat} {Γ : Ga} {D : DD} {B : Nat} {r : Int32} {s' : St} (X : Cx Γ RL cL_areAlarms 10 D B (RMg Z c0 7 112)) (M : RLe (RMg Z c0 7 112) Z 0 0 c0 7 112) (Y : Xy Γ B) (hr : (Gme Γ).sig.returnType = (some .boolean)) {K14 : St → Int32 → Int32 → Int32 → Int32 → Int32 → Option (Int32 × St)} (hK14 : ∀ {s : St} {l3 : Int32} {l4 : Int32} {l5 : Int32} {l6 : Int32} {l7 : Int32}, Hc c0 Z s → K14 s l3 l4 l5 l6 l7 = some (r, s') → V Γ D B true 10 (QX Γ D B true s' (.inl (some (.int r))) (64 * (ct s' - c0)) (768 * (ct s' - c0))) (kg 0 c0 s) (ng 0 c0 s) s 14 [(0, .ref (B + 0)), (1, .ref (B + 42)), (3, .int l3), (4, .int l4), (5, .int l5), (6, .int l6), (7, .int l7)] []) {s : St} {l3 : Int32} {l4 : Int32} {l6 : Int32} {l7 : Int32} {l8 : Int32} {t0 : Int32} {t1 : Int32} (hc : Hc c0 Z s) (hf : f_L_areAlarms_b115 F Z K14 s l3 l4 l6 l7 l8 t0 t1 = some (r, s')) : V Γ D B true 10 (QX Γ D B true s' (.inl (some (.int r))) (64 * (ct s' - c0)) (768 * (ct s' - c0))) (kg 0 c0 s) (ng 0 c0 s) s 115 [(0, .ref (B + 0)), (1, .ref (B + 42)), (3, .int l3), (4, .int l4), (6, .int l6), (7, .int l7), (8, .int l8)] [.int t1, .int t0] := by
  unfold f_L_areAlarms_b115 at hf
  refine r_iadd (pc := 115) X dL_areAlarms_115 ?_
  refine r_istore (pc := 116) (lv' := [(0, .ref (B + 0)), (1, .ref (B + 42)), (3, .int l3), (4, .int l4), (5, .int (t0 + t1)), (6, .int l6), (7, .int l7), (8, .int l8)]) X dL_areAlarms_116 (by decide) [1, 2, 3, 4, 0, 5, 6, 7] rfl ?_
  refine r_iload (pc := 118) X dL_areAlarms_118 5 rfl ?_
  refine b_if_eq (tgt := 169) (pc := 120) X dL_areAlarms_120 (by decide) hf (fun hf => ?_) (fun hf => ?_)
  · refine r_iconst (v := 0) (pc := 169) X dL_areAlarms_169 (by decide) ?_
    refine r_istore (pc := 170) (lv' := [(0, .ref (B + 0)), (1, .ref (B + 42)), (3, .int l3), (4, .int l4), (5, .int (t0 + t1)), (6, .int 0), (7, .int l7)]) X dL_areAlarms_170 (by decide) [1, 2, 3, 4, 5, 0, 6] rfl ?_
    refine r_iinc (v := l7 + 1) (lv' := [(0, .ref (B + 0)), (1, .ref (B + 42)), (3, .int l3), (4, .int l4), (5, .int (t0 + t1)), (6, .int 0), (7, .int (l7 + 1))]) (pc := 172) X dL_areAlarms_172 6 rfl rfl (by decide) [1, 2, 3, 4, 5, 6, 0] rfl ?_
    refine r_goto (tgt := 14) (pc := 175) X dL_areAlarms_175 (by decide) ?_
    exact hK14 hc hf
  · refine r_aload_n (x := some 0) (pc := 123) X dL_areAlarms_123 0 rfl ?_
    refine r_iload (pc := 124) X dL_areAlarms_124 6 rfl ?_
    refine bnd hf (fun x11 h11 hf => ?_)
    refine bnd hf (fun v12 h11v hf => ?_)
    refine y_callXVi (As := [.int l7]) (st := []) (pc := 126) X M Y hc (qc_run (ou := ouI) hc.2 (fun z x h => c_f_P_woken h) h11) rfl w_838 w_839 w_840 w_36 w_841 hdV_X10_woken (Rc.s rfl ce_0) (by decide) (Nat.le_of_ble_eq_true rfl) dL_areAlarms_126 rfl h11v (fun hc => ?_)
    refine b_if_lt (tgt := 165) (pc := 129) X dL_areAlarms_129 (by decide) hf (fun hf => ?_) (fun hf => ?_)
    · refine r_iconst (v := 1) (pc := 165) X dL_areAlarms_165 (by decide) ?_
      refine r_goto (tgt := 170) (pc := 166) X dL_areAlarms_166 (by decide) ?_
      refine r_istore (pc := 170) (lv' := [(0, .ref (B + 0)), (1, .ref (B + 42)), (3, .int l3), (4, .int l4), (5, .int (t0 + t1)), (6, .int 1), (7, .int l7)]) X dL_areAlarms_170 (by decide) [1, 2, 3, 4, 5, 0, 6] rfl ?_
      refine r_iinc (v := l7 + 1) (lv' := [(0, .ref (B + 0)), (1, .ref (B + 42)), (3, .int l3), (4, .int l4), (5, .int (t0 + t1)), (6, .int 1), (7, .int (l7 + 1))]) (pc := 172) X dL_areAlarms_172 6 rfl rfl (by decide) [1, 2, 3, 4, 5, 6, 0] rfl ?_
      refine r_goto (tgt := 14) (pc := 175) X dL_areAlarms_175 (by decide) ?_
      exact hK14 hc hf
    · refine r_aload_n (x := some 0) (pc := 132) X dL_areAlarms_132 0 rfl ?_
      refine r_aload_n (x := some 0) (pc := 133) X dL_areAlarms_133 0 rfl ?_
      refine r_iload (pc := 134) X dL_areAlarms_134 6 rfl ?_
      refine bnd hf (fun x13 h13 hf => ?_)
      refine bnd hf (fun v14 h13v hf => ?_)
      refine y_callXVi (As := [.int l7]) (st := [.ref (B + 0)]) (pc := 136) X M Y hc (qc_run (ou := ouI) hc.2 (fun z x h => c_f_P_wokenAt h) h13) rfl w_842 w_843 w_844 w_36 w_845 hdV_X10_wokenAt (Rc.s rfl ce_0) (by decide) (Nat.le_of_ble_eq_true rfl) dL_areAlarms_136 rfl h13v (fun hc => ?_)
      refine r_bipush (v := 8) (pc := 139) X dL_areAlarms_139 (by decide) ?_
      refine r_idiv (pc := 141) X dL_areAlarms_141 (by decide) ?_
      refine bnd hf (fun x15 h15 hf => ?_)
      refine bnd hf (fun v16 h15v hf => ?_)
      refine y_callXVi (As := [.int (v14 / 8)]) (st := []) (pc := 142) X M Y hc (qc_run (ou := ouI) hc.2 (fun z x h => c_f_P_holder h) h15) rfl w_806 w_807 w_808 w_36 w_809 hdV_X10_holder (Rc.s rfl ce_0) (by decide) (Nat.le_of_ble_eq_true rfl) dL_areAlarms_142 rfl h15v (fun hc => ?_)
      refine r_aload_n (x := some 0) (pc := 145) X dL_areAlarms_145 0 rfl ?_
      refine r_iload (pc := 146) X dL_areAlarms_146 6 rfl ?_
      refine bnd hf (fun x17 h17 hf => ?_)
      refine bnd hf (fun v18 h17v hf => ?_)
      refine y_callXVi (As := [.int l7]) (st := [.int v16]) (pc := 148) X M Y hc (qc_run (ou := ouI) hc.2 (fun z x h => c_f_P_woken h) h17) rfl w_838 w_839 w_840 w_36 w_841 hdV_X10_woken (Rc.s rfl ce_0) (by decide) (Nat.le_of_ble_eq_true rfl) dL_areAlarms_148 rfl h17v (fun hc => ?_)
      refine b_icmp_ne (tgt := 169) (pc := 151) X dL_areAlarms_151 (by decide) hf (fun hf => ?_) (fun hf => ?_)
      · refine r_aload_n (x := some 0) (pc := 154) X dL_areAlarms_154 0 rfl ?_
        refine r_iload (pc := 155) X dL_areAlarms_155 6 rfl ?_
        refine bnd hf (fun x19 h19 hf => ?_)
        refine bnd hf (fun v20 h19v hf => ?_)
        refine y_callXVi (As := [.int l7]) (st := []) (pc := 157) X M Y hc (qc_run (ou := ouI) hc.2 (fun z x h => c_f_P_wokenAt h) h19) rfl w_842 w_843 w_844 w_36 w_845 hdV_X10_wokenAt (Rc.s rfl ce_0) (by decide) (Nat.le_of_ble_eq_true rfl) dL_areAlarms_157 rfl h19v (fun hc => ?_)
        refine r_iload (pc := 160) X dL_areAlarms_160 7 rfl ?_
        refine b_icmp_lt (tgt := 169) (pc := 162) X dL_areAlarms_162 (by decide) hf (fun hf => ?_) (fun hf => ?_)
        · refine r_iconst (v := 0) (pc := 169) X dL_areAlarms_169 (by decide) ?_
          refine r_istore (pc := 170) (lv' := [(0, .ref (B + 0)), (1, .ref (B + 42)), (3, .int l3), (4, .int l4), (5, .int (t0 + t1)), (6, .int 0), (7, .int l7)]) X dL_areAlarms_170 (by decide) [1, 2, 3, 4, 5, 0, 6] rfl ?_
          refine r_iinc (v := l7 + 1) (lv' := [(0, .ref (B + 0)), (1, .ref (B + 42)), (3, .int l3), (4, .int l4), (5, .int (t0 + t1)), (6, .int 0), (7, .int (l7 + 1))]) (pc := 172) X dL_areAlarms_172 6 rfl rfl (by decide) [1, 2, 3, 4, 5, 6, 0] rfl ?_
          refine r_goto (tgt := 14) (pc := 175) X dL_areAlarms_175 (by decide) ?_
          exact hK14 hc hf
        · refine r_iconst (v := 1) (pc := 165) X dL_areAlarms_165 (by decide) ?_
          refine r_goto (tgt := 170) (pc := 166) X dL_areAlarms_166 (by decide) ?_
          refine r_istore (pc := 170) (lv' := [(0, .ref (B + 0)), (1, .ref (B + 42)), (3, .int l3), (4, .int l4), (5, .int (t0 + t1)), (6, .int 1), (7, .int l7)]) X dL_areAlarms_170 (by decide) [1, 2, 3, 4, 5, 0, 6] rfl ?_
          refine r_iinc (v := l7 + 1) (lv' := [(0, .ref (B + 0)), (1, .ref (B + 42)), (3, .int l3), (4, .int l4), (5, .int (t0 + t1)), (6, .int 1), (7, .int (l7 + 1))]) (pc := 172) X dL_areAlarms_172 6 rfl rfl (by decide) [1, 2, 3, 4, 5, 6, 0] rfl ?_
          refine r_goto (tgt := 14) (pc := 175) X dL_areAlarms_175 (by decide) ?_
          exact hK14 hc hf
      · refine r_iconst (v := 0) (pc := 169) X dL_areAlarms_169 (by decide) ?_
        refine r_istore (pc := 170) (lv' := [(0, .ref (B + 0)), (1, .ref (B + 42)), (3, .int l3), (4, .int l4), (5, .int (t0 + t1)), (6, .int 0), (7, .int l7)]) X dL_areAlarms_170 (by decide) [1, 2, 3, 4, 5, 0, 6] rfl ?_
        refine r_iinc (v := l7 + 1) (lv' := [(0, .ref (B + 0)), (1, .ref (B + 42)), (3, .int l3), (4, .int l4), (5, .int (t0 + t1)), (6, .int 0), (7, .int (l7 + 1))]) (pc := 172) X dL_areAlarms_172 6 rfl rfl (by decide) [1, 2, 3, 4, 5, 6, 0] rfl ?_
        refine r_goto (tgt := 14) (pc := 175) X dL_areAlarms_175 (by decide) ?_
        exact hK14 hc hf
set_option maxHeartbeats 1000000 in
theorem c_f_L_areAlarms_b87 {F Z : Nat} {c0 : Nat} {Γ : Ga} {D : DD} {B : Nat} {r : Int32} {s' : St} (X : Cx Γ RL cL_areAlarms 10 D B (RMg Z c0 7 112)) (M : RLe (RMg Z c0 7 112) Z 0 0 c0 7 112) (Y : Xy Γ B) (hr : (Gme Γ).sig.returnType = (some .boolean)) {K14 : St → Int32 → Int32 → Int32 → Int32 → Int32 → Option (Int32 × St)} (hK14 : ∀ {s : St} {l3 : Int32} {l4 : Int32} {l5 : Int32} {l6 : Int32} {l7 : Int32}, Hc c0 Z s → K14 s l3 l4 l5 l6 l7 = some (r, s') → V Γ D B true 10 (QX Γ D B true s' (.inl (some (.int r))) (64 * (ct s' - c0)) (768 * (ct s' - c0))) (kg 0 c0 s) (ng 0 c0 s) s 14 [(0, .ref (B + 0)), (1, .ref (B + 42)), (3, .int l3), (4, .int l4), (5, .int l5), (6, .int l6), (7, .int l7)] []) {s : St} {l3 : Int32} {l4 : Int32} {l5 : Int32} {l7 : Int32} {l8 : Int32} {l9 : Int32} {t0 : Int32} (hc : Hc c0 Z s) (hf : f_L_areAlarms_b87 F Z K14 s l3 l4 l5 l7 l8 l9 t0 = some (r, s')) : V Γ D B true 10 (QX Γ D B true s' (.inl (some (.int r))) (64 * (ct s' - c0)) (768 * (ct s' - c0))) (kg 0 c0 s) (ng 0 c0 s) s 87 [(0, .ref (B + 0)), (1, .ref (B + 42)), (3, .int l3), (4, .int l4), (5, .int l5), (7, .int l7), (8, .int l8), (9, .int l9)] [.int t0] := by
  unfold f_L_areAlarms_b87 at hf
  refine r_istore (pc := 87) (lv' := [(0, .ref (B + 0)), (1, .ref (B + 42)), (3, .int l3), (4, .int l4), (5, .int l5), (6, .int t0), (7, .int l7), (8, .int l8), (9, .int l9)]) X dL_areAlarms_87 (by decide) [1, 2, 3, 4, 5, 0, 6, 7, 8] rfl ?_
  refine r_iload (pc := 89) X dL_areAlarms_89 8 rfl ?_
  refine b_if_eq (tgt := 99) (pc := 91) X dL_areAlarms_91 (by decide) hf (fun hf => ?_) (fun hf => ?_)
  · refine r_iload (pc := 99) X dL_areAlarms_99 3 rfl ?_
    refine r_istore (pc := 101) (lv' := [(0, .ref (B + 0)), (1, .ref (B + 42)), (3, .int l3), (4, .int l4), (5, .int l5), (6, .int t0), (7, .int l7), (8, .int l8), (9, .int l9)]) X dL_areAlarms_101 (by decide) [1, 2, 3, 0, 4, 5, 6, 7, 8] rfl ?_
    refine r_iload (pc := 103) X dL_areAlarms_103 4 rfl ?_
    refine r_iload (pc := 105) X dL_areAlarms_105 8 rfl ?_
    refine b_if_eq (tgt := 114) (pc := 107) X dL_areAlarms_107 (by decide) hf (fun hf => ?_) (fun hf => ?_)
    · refine r_iconst (v := 0) (pc := 114) X dL_areAlarms_114 (by decide) ?_
      refine r_forget (lv' := [(0, .ref (B + 0)), (1, .ref (B + 42)), (3, .int l3), (4, .int l4), (6, .int t0), (7, .int l7), (8, .int l8)]) [0, 1, 2, 3, 5, 6, 7] rfl ?_
      exact c_f_L_areAlarms_b115 X M Y hr hK14 hc hf
    · refine r_iconst (v := 1) (pc := 110) X dL_areAlarms_110 (by decide) ?_
      refine r_goto (tgt := 115) (pc := 111) X dL_areAlarms_111 (by decide) ?_
      refine r_forget (lv' := [(0, .ref (B + 0)), (1, .ref (B + 42)), (3, .int l3), (4, .int l4), (6, .int t0), (7, .int l7), (8, .int l8)]) [0, 1, 2, 3, 5, 6, 7] rfl ?_
      exact c_f_L_areAlarms_b115 X M Y hr hK14 hc hf
  · refine r_iload (pc := 94) X dL_areAlarms_94 7 rfl ?_
    refine r_goto (tgt := 101) (pc := 96) X dL_areAlarms_96 (by decide) ?_
    refine r_istore (pc := 101) (lv' := [(0, .ref (B + 0)), (1, .ref (B + 42)), (3, .int l3), (4, .int l8), (5, .int l5), (6, .int t0), (7, .int l7), (8, .int l8), (9, .int l9)]) X dL_areAlarms_101 (by decide) [1, 2, 3, 0, 4, 5, 6, 7, 8] rfl ?_
    refine r_iload (pc := 103) X dL_areAlarms_103 4 rfl ?_
    refine r_iload (pc := 105) X dL_areAlarms_105 8 rfl ?_
    refine b_if_eq (tgt := 114) (pc := 107) X dL_areAlarms_107 (by decide) hf (fun hf => ?_) (fun hf => ?_)
    · refine r_iconst (v := 0) (pc := 114) X dL_areAlarms_114 (by decide) ?_
      refine r_forget (lv' := [(0, .ref (B + 0)), (1, .ref (B + 42)), (3, .int l3), (4, .int l8), (6, .int t0), (7, .int l7), (8, .int l8)]) [0, 1, 2, 3, 5, 6, 7] rfl ?_
      exact c_f_L_areAlarms_b115 X M Y hr hK14 hc hf
    · refine r_iconst (v := 1) (pc := 110) X dL_areAlarms_110 (by decide) ?_
      refine r_goto (tgt := 115) (pc := 111) X dL_areAlarms_111 (by decide) ?_
      refine r_forget (lv' := [(0, .ref (B + 0)), (1, .ref (B + 42)), (3, .int l3), (4, .int l8), (6, .int t0), (7, .int l7), (8, .int l8)]) [0, 1, 2, 3, 5, 6, 7] rfl ?_
      exact c_f_L_areAlarms_b115 X M Y hr hK14 hc hf
set_option maxHeartbeats 1000000 in
theorem c_f_L_areAlarms_b59 {F Z : Nat} {c0 : Nat} {Γ : Ga} {D : DD} {B : Nat} {r : Int32} {s' : St} (X : Cx Γ RL cL_areAlarms 10 D B (RMg Z c0 7 112)) (M : RLe (RMg Z c0 7 112) Z 0 0 c0 7 112) (Y : Xy Γ B) (hr : (Gme Γ).sig.returnType = (some .boolean)) {K14 : St → Int32 → Int32 → Int32 → Int32 → Int32 → Option (Int32 × St)} (hK14 : ∀ {s : St} {l3 : Int32} {l4 : Int32} {l5 : Int32} {l6 : Int32} {l7 : Int32}, Hc c0 Z s → K14 s l3 l4 l5 l6 l7 = some (r, s') → V Γ D B true 10 (QX Γ D B true s' (.inl (some (.int r))) (64 * (ct s' - c0)) (768 * (ct s' - c0))) (kg 0 c0 s) (ng 0 c0 s) s 14 [(0, .ref (B + 0)), (1, .ref (B + 42)), (3, .int l3), (4, .int l4), (5, .int l5), (6, .int l6), (7, .int l7)] []) {s : St} {l3 : Int32} {l4 : Int32} {l5 : Int32} {l7 : Int32} {l8 : Int32} {t0 : Int32} (hc : Hc c0 Z s) (hf : f_L_areAlarms_b59 F Z K14 s l3 l4 l5 l7 l8 t0 = some (r, s')) : V Γ D B true 10 (QX Γ D B true s' (.inl (some (.int r))) (64 * (ct s' - c0)) (768 * (ct s' - c0))) (kg 0 c0 s) (ng 0 c0 s) s 59 [(0, .ref (B + 0)), (1, .ref (B + 42)), (3, .int l3), (4, .int l4), (5, .int l5), (7, .int l7), (8, .int l8)] [.int t0] := by
  unfold f_L_areAlarms_b59 at hf
  refine r_istore (pc := 59) (lv' := [(0, .ref (B + 0)), (1, .ref (B + 42)), (3, .int l3), (4, .int l4), (5, .int l5), (7, .int l7), (8, .int l8), (9, .int t0)]) X dL_areAlarms_59 (by decide) [1, 2, 3, 4, 5, 6, 7, 0] rfl ?_
  refine r_iload (pc := 61) X dL_areAlarms_61 7 rfl ?_
  refine b_if_eq (tgt := 82) (pc := 63) X dL_areAlarms_63 (by decide) hf (fun hf => ?_) (fun hf => ?_)
  · refine r_iconst (v := 1) (pc := 82) X dL_areAlarms_82 (by decide) ?_
    refine r_goto (tgt := 87) (pc := 83) X dL_areAlarms_83 (by decide) ?_
    exact c_f_L_areAlarms_b87 X M Y hr hK14 hc hf
  · refine r_iload (pc := 66) X dL_areAlarms_66 6 rfl ?_
    refine r_iload (pc := 68) X dL_areAlarms_68 3 rfl ?_
    refine r_isub (pc := 70) X dL_areAlarms_70 ?_
    refine r_aload_n (x := some 42) (pc := 71) X dL_areAlarms_71 1 rfl ?_
    refine r_bipush (v := 12) (pc := 72) X dL_areAlarms_72 (by decide) ?_
    refine r_iload_n (pc := 74) X dL_areAlarms_74 2 rfl ?_
    refine r_imul (pc := 75) X dL_areAlarms_75 ?_
    refine r_iconst (v := 2) (pc := 76) X dL_areAlarms_76 (by decide) ?_
    refine r_iadd (pc := 77) X dL_areAlarms_77 ?_
    refine b_iald (pc := 78) X ce_42 dL_areAlarms_78 hf (fun j21 hf => ?_)
    refine b_icmp_le (tgt := 86) (pc := 79) X dL_areAlarms_79 (by decide) hf (fun hf => ?_) (fun hf => ?_)
    · refine r_iconst (v := 0) (pc := 86) X dL_areAlarms_86 (by decide) ?_
      exact c_f_L_areAlarms_b87 X M Y hr hK14 hc hf
    · refine r_iconst (v := 1) (pc := 82) X dL_areAlarms_82 (by decide) ?_
      refine r_goto (tgt := 87) (pc := 83) X dL_areAlarms_83 (by decide) ?_
      exact c_f_L_areAlarms_b87 X M Y hr hK14 hc hf
set_option maxHeartbeats 1000000 in
theorem c_f_L_areAlarms_b14 {F Z : Nat} {c0 : Nat} {Γ : Ga} {D : DD} {B : Nat} {r : Int32} {s' : St} (X : Cx Γ RL cL_areAlarms 10 D B (RMg Z c0 7 112)) (M : RLe (RMg Z c0 7 112) Z 0 0 c0 7 112) (Y : Xy Γ B) (hr : (Gme Γ).sig.returnType = (some .boolean)) : ∀ (n : Nat) {s : St} {l3 : Int32} {l4 : Int32} {l5 : Int32} {l6 : Int32} {l7 : Int32}, Hc c0 Z s → f_L_areAlarms_b14 F Z n s l3 l4 l5 l6 l7 = some (r, s') → V Γ D B true 10 (QX Γ D B true s' (.inl (some (.int r))) (64 * (ct s' - c0)) (768 * (ct s' - c0))) (kg 0 c0 s) (ng 0 c0 s) s 14 [(0, .ref (B + 0)), (1, .ref (B + 42)), (3, .int l3), (4, .int l4), (5, .int l5), (6, .int l6), (7, .int l7)] [] := by
  intro n
  induction n with
  | zero => intro s l3 l4 l5 l6 l7 hc hf; rw [f_L_areAlarms_b14] at hf; cases hf
  | succ n ih =>
    intro s l3 l4 l5 l6 l7 hc hf
    rw [f_L_areAlarms_b14] at hf
    refine r_iload (pc := 14) X dL_areAlarms_14 6 rfl ?_
    refine r_aload_n (x := some 0) (pc := 16) X dL_areAlarms_16 0 rfl ?_
    refine bnd hf (fun x1 h1 hf => ?_)
    refine y_callVi (As := []) (st := [.int l7]) (pc := 17) X M hc (c_f_P_alarms h1) rfl w_428 w_429 w_430 w_36 w_431 hdV_X10_alarms (Rc.s rfl ce_0) (by decide) (Nat.le_of_ble_eq_true rfl) dL_areAlarms_17 rfl hf (fun s2 hc hf => ?_)
    refine b_icmp_ge (tgt := 178) (pc := 20) X dL_areAlarms_20 (by decide) hf (fun hf => ?_) (fun hf => ?_)
    · refine r_iload (pc := 178) X dL_areAlarms_178 5 rfl ?_
      refine b_if_eq (tgt := 197) (pc := 180) X dL_areAlarms_180 (by decide) hf (fun hf => ?_) (fun hf => ?_)
      · refine r_iconst (v := 0) (pc := 197) X dL_areAlarms_197 (by decide) ?_
        exact y_zret (pc := 198) X hr (by decide) hf dL_areAlarms_198
      · refine r_aload_n (x := some 0) (pc := 183) X dL_areAlarms_183 0 rfl ?_
        refine r_iload_n (pc := 184) X dL_areAlarms_184 2 rfl ?_
        refine bnd hf (fun x3 h3 hf => ?_)
        refine bnd hf (fun v4 h3v hf => ?_)
        refine y_callXVi (As := [.int l3]) (st := []) (pc := 185) X M Y hc (qc_run (ou := ouI) hc.2 (fun z x h => c_f_P_rises h) h3) rfl w_351 w_352 w_353 w_36 w_354 hdV_X10_rises (Rc.s rfl ce_0) (by decide) (Nat.le_of_ble_eq_true rfl) dL_areAlarms_185 rfl h3v (fun hc => ?_)
        refine r_iload (pc := 188) X dL_areAlarms_188 4 rfl ?_
        refine b_icmp_ne (tgt := 197) (pc := 190) X dL_areAlarms_190 (by decide) hf (fun hf => ?_) (fun hf => ?_)
        · refine r_iconst (v := 1) (pc := 193) X dL_areAlarms_193 (by decide) ?_
          refine r_goto (tgt := 198) (pc := 194) X dL_areAlarms_194 (by decide) ?_
          exact y_zret (pc := 198) X hr (by decide) hf dL_areAlarms_198
        · refine r_iconst (v := 0) (pc := 197) X dL_areAlarms_197 (by decide) ?_
          exact y_zret (pc := 198) X hr (by decide) hf dL_areAlarms_198
    · refine r_iload (pc := 23) X dL_areAlarms_23 5 rfl ?_
      refine b_if_eq (tgt := 178) (pc := 25) X dL_areAlarms_25 (by decide) hf (fun hf => ?_) (fun hf => ?_)
      · refine r_iload (pc := 178) X dL_areAlarms_178 5 rfl ?_
        refine b_if_eq (tgt := 197) (pc := 180) X dL_areAlarms_180 (by decide) hf (fun hf => ?_) (fun hf => ?_)
        · refine r_iconst (v := 0) (pc := 197) X dL_areAlarms_197 (by decide) ?_
          exact y_zret (pc := 198) X hr (by decide) hf dL_areAlarms_198
        · refine r_aload_n (x := some 0) (pc := 183) X dL_areAlarms_183 0 rfl ?_
          refine r_iload_n (pc := 184) X dL_areAlarms_184 2 rfl ?_
          refine bnd hf (fun x5 h5 hf => ?_)
          refine bnd hf (fun v6 h5v hf => ?_)
          refine y_callXVi (As := [.int l3]) (st := []) (pc := 185) X M Y hc (qc_run (ou := ouI) hc.2 (fun z x h => c_f_P_rises h) h5) rfl w_351 w_352 w_353 w_36 w_354 hdV_X10_rises (Rc.s rfl ce_0) (by decide) (Nat.le_of_ble_eq_true rfl) dL_areAlarms_185 rfl h5v (fun hc => ?_)
          refine r_iload (pc := 188) X dL_areAlarms_188 4 rfl ?_
          refine b_icmp_ne (tgt := 197) (pc := 190) X dL_areAlarms_190 (by decide) hf (fun hf => ?_) (fun hf => ?_)
          · refine r_iconst (v := 1) (pc := 193) X dL_areAlarms_193 (by decide) ?_
            refine r_goto (tgt := 198) (pc := 194) X dL_areAlarms_194 (by decide) ?_
            exact y_zret (pc := 198) X hr (by decide) hf dL_areAlarms_198
          · refine r_iconst (v := 0) (pc := 197) X dL_areAlarms_197 (by decide) ?_
            exact y_zret (pc := 198) X hr (by decide) hf dL_areAlarms_198
      · refine r_aload_n (x := some 0) (pc := 28) X dL_areAlarms_28 0 rfl ?_
        refine r_iload (pc := 29) X dL_areAlarms_29 6 rfl ?_
        refine bnd hf (fun x7 h7 hf => ?_)
        refine bnd hf (fun v8 h7v hf => ?_)
        refine y_callXVi (As := [.int l7]) (st := []) (pc := 31) X M Y hc (qc_run (ou := ouI) hc.2 (fun z x h => c_f_P_alarm h) h7) rfl w_834 w_835 w_836 w_36 w_837 hdV_X10_alarm (Rc.s rfl ce_0) (by decide) (Nat.le_of_ble_eq_true rfl) dL_areAlarms_31 rfl h7v (fun hc => ?_)
        refine r_sipush (v := 10000) (pc := 34) X dL_areAlarms_34 (by decide) ?_
        refine r_irem (pc := 37) X dL_areAlarms_37 (by decide) ?_
        refine r_istore (pc := 38) (lv' := [(0, .ref (B + 0)), (1, .ref (B + 42)), (3, .int l3), (4, .int l4), (5, .int l5), (7, .int l7), (8, .int (v8 - v8 / 10000 * 10000))]) X dL_areAlarms_38 (by decide) [1, 2, 3, 4, 5, 7, 0] rfl ?_
        refine r_aload_n (x := some 0) (pc := 40) X dL_areAlarms_40 0 rfl ?_
        refine r_iload (pc := 41) X dL_areAlarms_41 5 rfl ?_
        refine bnd hf (fun x9 h9 hf => ?_)
        refine bnd hf (fun v10 h9v hf => ?_)
        refine y_callXVi (As := [.int l7]) (st := []) (pc := 43) X M Y hc (qc_run (ou := ouI) hc.2 (fun z x h => c_f_P_alarm h) h9) rfl w_834 w_835 w_836 w_36 w_837 hdV_X10_alarm (Rc.s rfl ce_0) (by decide) (Nat.le_of_ble_eq_true rfl) dL_areAlarms_43 rfl h9v (fun hc => ?_)
        refine r_sipush (v := 10000) (pc := 46) X dL_areAlarms_46 (by decide) ?_
        refine r_idiv (pc := 49) X dL_areAlarms_49 (by decide) ?_
        refine r_iload_n (pc := 50) X dL_areAlarms_50 2 rfl ?_
        refine b_icmp_ne (tgt := 58) (pc := 51) X dL_areAlarms_51 (by decide) hf (fun hf => ?_) (fun hf => ?_)
        · refine r_iconst (v := 1) (pc := 54) X dL_areAlarms_54 (by decide) ?_
          refine r_goto (tgt := 59) (pc := 55) X dL_areAlarms_55 (by decide) ?_
          exact c_f_L_areAlarms_b59 X M Y hr (fun hc hf => ih hc hf) hc hf
        · refine r_iconst (v := 0) (pc := 58) X dL_areAlarms_58 (by decide) ?_
          exact c_f_L_areAlarms_b59 X M Y hr (fun hc hf => ih hc hf) hc hf
set_option maxHeartbeats 1000000 in
theorem c_f_L_areAlarms {F Z : Nat} {s : St} {p3 : Int32} {r : Int32} {s' : St} (hf : f_L_areAlarms F Z s p3 = some (r, s')) (hz : ct s ≤ Z) : CX true yL_areAlarms (Cond.code yL_areAlarms cL_areAlarms 10 (some .boolean)) 7 112 (64 * (Z - ct s)) (768 * (Z - ct s)) (fun B => [.ref (B + 0), .ref (B + 42), .ref (B + 39), .int p3]) s (fun B => .inl (some (.int r))) s' (64 * (ct s' - ct s)) (768 * (ct s' - ct s)) := by
  refine CX.ofL (fun B => [(0, .ref (B + 0)), (1, .ref (B + 42)), (2, .ref (B + 39)), (3, .int p3)]) (by decide +kernel) (fun _ => rfl) (fun _ => (by simp [lg_sl, rfB_cat, catI, catL, catR])) (fun Γ D B X Y hr => ?_)
  have X : Cx Γ RL cL_areAlarms 10 D B (RMg Z (ct s) 7 112) := X
  have M : RLe (RMg Z (ct s) 7 112) Z 0 0 (ct s) 7 112 := RLe.rf
  have hc : Hc (ct s) Z s := ⟨Nat.le_refl _, hz⟩
  unfold f_L_areAlarms at hf
  refine r_sipush (v := -1000) (pc := 0) X dL_areAlarms_0 (by decide) ?_
  refine r_istore (pc := 3) (lv' := [(0, .ref (B + 0)), (1, .ref (B + 42)), (3, .int p3), (4, .int (-1000))]) X dL_areAlarms_3 (by decide) [1, 2, 4, 0] rfl ?_
  refine r_iconst (v := 0) (pc := 5) X dL_areAlarms_5 (by decide) ?_
  refine r_istore (pc := 6) (lv' := [(0, .ref (B + 0)), (1, .ref (B + 42)), (3, .int p3), (4, .int (-1000)), (5, .int 0)]) X dL_areAlarms_6 (by decide) [1, 2, 3, 4, 0] rfl ?_
  refine r_iconst (v := 1) (pc := 8) X dL_areAlarms_8 (by decide) ?_
  refine r_istore (pc := 9) (lv' := [(0, .ref (B + 0)), (1, .ref (B + 42)), (3, .int p3), (4, .int (-1000)), (5, .int 0), (6, .int 1)]) X dL_areAlarms_9 (by decide) [1, 2, 3, 4, 5, 0] rfl ?_
  refine r_iconst (v := 0) (pc := 11) X dL_areAlarms_11 (by decide) ?_
  refine r_istore (pc := 12) (lv' := [(0, .ref (B + 0)), (1, .ref (B + 42)), (3, .int p3), (4, .int (-1000)), (5, .int 0), (6, .int 1), (7, .int 0)]) X dL_areAlarms_12 (by decide) [1, 2, 3, 4, 5, 6, 0] rfl ?_
  exact c_f_L_areAlarms_b14 X M Y hr _ hc hf
/-! f_L_isAnswered -/
theorem dL_isAnswered_0 : decode cL_isAnswered 0 = .ok (.aload_n 0, 1) := by decide +kernel
theorem dL_isAnswered_1 : decode cL_isAnswered 1 = .ok (.iload 4, 2) := by decide +kernel
theorem dL_isAnswered_3 : decode cL_isAnswered 3 = .ok (.invokevirtual 91, 3) := by decide +kernel
theorem dL_isAnswered_6 : decode cL_isAnswered 6 = .ok (.istore 6, 2) := by decide +kernel
theorem dL_isAnswered_8 : decode cL_isAnswered 8 = .ok (.iload 6, 2) := by decide +kernel
theorem dL_isAnswered_10 : decode cL_isAnswered 10 = .ok (.ifCond .lt 11, 3) := by decide +kernel
theorem dL_isAnswered_13 : decode cL_isAnswered 13 = .ok (.aload_n 2, 1) := by decide +kernel
theorem dL_isAnswered_14 : decode cL_isAnswered 14 = .ok (.iload 4, 2) := by decide +kernel
theorem dL_isAnswered_16 : decode cL_isAnswered 16 = .ok (.iaload, 1) := by decide +kernel
theorem dL_isAnswered_17 : decode cL_isAnswered 17 = .ok (.iconst 1, 1) := by decide +kernel
theorem dL_isAnswered_18 : decode cL_isAnswered 18 = .ok (.if_icmp .ne 35, 3) := by decide +kernel
theorem dL_isAnswered_21 : decode cL_isAnswered 21 = .ok (.aload_n 0, 1) := by decide +kernel
theorem dL_isAnswered_22 : decode cL_isAnswered 22 = .ok (.bipush 8, 2) := by decide +kernel
theorem dL_isAnswered_24 : decode cL_isAnswered 24 = .ok (.iload 4, 2) := by decide +kernel
theorem dL_isAnswered_26 : decode cL_isAnswered 26 = .ok (.iload 5, 2) := by decide +kernel
theorem dL_isAnswered_28 : decode cL_isAnswered 28 = .ok (.ifCond .eq 7, 3) := by decide +kernel
theorem dL_isAnswered_31 : decode cL_isAnswered 31 = .ok (.iconst 1, 1) := by decide +kernel
theorem dL_isAnswered_32 : decode cL_isAnswered 32 = .ok (.goto 4, 3) := by decide +kernel
theorem dL_isAnswered_35 : decode cL_isAnswered 35 = .ok (.iconst 0, 1) := by decide +kernel
theorem dL_isAnswered_36 : decode cL_isAnswered 36 = .ok (.iconst 0, 1) := by decide +kernel
theorem dL_isAnswered_37 : decode cL_isAnswered 37 = .ok (.iconst 0, 1) := by decide +kernel
theorem dL_isAnswered_38 : decode cL_isAnswered 38 = .ok (.invokestatic 133, 3) := by decide +kernel
theorem dL_isAnswered_41 : decode cL_isAnswered 41 = .ok (.sipush (-1243), 3) := by decide +kernel
theorem dL_isAnswered_44 : decode cL_isAnswered 44 = .ok (.if_icmp .ne 7, 3) := by decide +kernel
theorem dL_isAnswered_47 : decode cL_isAnswered 47 = .ok (.iconst 1, 1) := by decide +kernel
theorem dL_isAnswered_48 : decode cL_isAnswered 48 = .ok (.goto 4, 3) := by decide +kernel
theorem dL_isAnswered_51 : decode cL_isAnswered 51 = .ok (.iconst 0, 1) := by decide +kernel
theorem dL_isAnswered_52 : decode cL_isAnswered 52 = .ok (.ireturn, 1) := by decide +kernel
theorem dL_isAnswered_53 : decode cL_isAnswered 53 = .ok (.aload_n 1, 1) := by decide +kernel
theorem dL_isAnswered_54 : decode cL_isAnswered 54 = .ok (.bipush 12, 2) := by decide +kernel
theorem dL_isAnswered_56 : decode cL_isAnswered 56 = .ok (.aload_n 0, 1) := by decide +kernel
theorem dL_isAnswered_57 : decode cL_isAnswered 57 = .ok (.iload 4, 2) := by decide +kernel
theorem dL_isAnswered_59 : decode cL_isAnswered 59 = .ok (.invokevirtual 88, 3) := by decide +kernel
theorem dL_isAnswered_62 : decode cL_isAnswered 62 = .ok (.sipush 10000, 3) := by decide +kernel
theorem dL_isAnswered_65 : decode cL_isAnswered 65 = .ok (.idiv, 1) := by decide +kernel
theorem dL_isAnswered_66 : decode cL_isAnswered 66 = .ok (.imul, 1) := by decide +kernel
theorem dL_isAnswered_67 : decode cL_isAnswered 67 = .ok (.iaload, 1) := by decide +kernel
theorem dL_isAnswered_68 : decode cL_isAnswered 68 = .ok (.istore 7, 2) := by decide +kernel
theorem dL_isAnswered_70 : decode cL_isAnswered 70 = .ok (.aload_n 0, 1) := by decide +kernel
theorem dL_isAnswered_71 : decode cL_isAnswered 71 = .ok (.iload 7, 2) := by decide +kernel
theorem dL_isAnswered_73 : decode cL_isAnswered 73 = .ok (.iload 6, 2) := by decide +kernel
theorem dL_isAnswered_75 : decode cL_isAnswered 75 = .ok (.invokevirtual 75, 3) := by decide +kernel
theorem dL_isAnswered_78 : decode cL_isAnswered 78 = .ok (.istore 8, 2) := by decide +kernel
theorem dL_isAnswered_80 : decode cL_isAnswered 80 = .ok (.iload 5, 2) := by decide +kernel
theorem dL_isAnswered_82 : decode cL_isAnswered 82 = .ok (.ifCond .eq 28, 3) := by decide +kernel
theorem dL_isAnswered_85 : decode cL_isAnswered 85 = .ok (.iload 7, 2) := by decide +kernel
theorem dL_isAnswered_87 : decode cL_isAnswered 87 = .ok (.iload 6, 2) := by decide +kernel
theorem dL_isAnswered_89 : decode cL_isAnswered 89 = .ok (.if_icmp .eq 21, 3) := by decide +kernel
theorem dL_isAnswered_92 : decode cL_isAnswered 92 = .ok (.aload_n 0, 1) := by decide +kernel
theorem dL_isAnswered_93 : decode cL_isAnswered 93 = .ok (.iload 4, 2) := by decide +kernel
theorem dL_isAnswered_95 : decode cL_isAnswered 95 = .ok (.invokevirtual 94, 3) := by decide +kernel
theorem dL_isAnswered_98 : decode cL_isAnswered 98 = .ok (.bipush 8, 2) := by decide +kernel
theorem dL_isAnswered_100 : decode cL_isAnswered 100 = .ok (.idiv, 1) := by decide +kernel
theorem dL_isAnswered_101 : decode cL_isAnswered 101 = .ok (.iconst 3, 1) := by decide +kernel
theorem dL_isAnswered_102 : decode cL_isAnswered 102 = .ok (.irem, 1) := by decide +kernel
theorem dL_isAnswered_103 : decode cL_isAnswered 103 = .ok (.ifCond .ne 7, 3) := by decide +kernel
theorem dL_isAnswered_106 : decode cL_isAnswered 106 = .ok (.iconst 1, 1) := by decide +kernel
theorem dL_isAnswered_107 : decode cL_isAnswered 107 = .ok (.goto 4, 3) := by decide +kernel
theorem dL_isAnswered_110 : decode cL_isAnswered 110 = .ok (.iconst 0, 1) := by decide +kernel
theorem dL_isAnswered_111 : decode cL_isAnswered 111 = .ok (.istore 9, 2) := by decide +kernel
theorem dL_isAnswered_113 : decode cL_isAnswered 113 = .ok (.aload_n 2, 1) := by decide +kernel
theorem dL_isAnswered_114 : decode cL_isAnswered 114 = .ok (.iload 4, 2) := by decide +kernel
theorem dL_isAnswered_116 : decode cL_isAnswered 116 = .ok (.iconst 1, 1) := by decide +kernel
theorem dL_isAnswered_117 : decode cL_isAnswered 117 = .ok (.iastore, 1) := by decide +kernel
theorem dL_isAnswered_118 : decode cL_isAnswered 118 = .ok (.aload_n 3, 1) := by decide +kernel
theorem dL_isAnswered_119 : decode cL_isAnswered 119 = .ok (.iconst 3, 1) := by decide +kernel
theorem dL_isAnswered_120 : decode cL_isAnswered 120 = .ok (.dup2, 1) := by decide +kernel
theorem dL_isAnswered_121 : decode cL_isAnswered 121 = .ok (.iaload, 1) := by decide +kernel
theorem dL_isAnswered_122 : decode cL_isAnswered 122 = .ok (.iload 9, 2) := by decide +kernel
theorem dL_isAnswered_124 : decode cL_isAnswered 124 = .ok (.ifCond .eq 7, 3) := by decide +kernel
theorem dL_isAnswered_127 : decode cL_isAnswered 127 = .ok (.iconst 1, 1) := by decide +kernel
theorem dL_isAnswered_128 : decode cL_isAnswered 128 = .ok (.goto 4, 3) := by decide +kernel
theorem dL_isAnswered_131 : decode cL_isAnswered 131 = .ok (.iconst 0, 1) := by decide +kernel
theorem dL_isAnswered_132 : decode cL_isAnswered 132 = .ok (.iadd, 1) := by decide +kernel
theorem dL_isAnswered_133 : decode cL_isAnswered 133 = .ok (.iastore, 1) := by decide +kernel
theorem dL_isAnswered_134 : decode cL_isAnswered 134 = .ok (.aload_n 0, 1) := by decide +kernel
theorem dL_isAnswered_135 : decode cL_isAnswered 135 = .ok (.bipush 8, 2) := by decide +kernel
theorem dL_isAnswered_137 : decode cL_isAnswered 137 = .ok (.iload 4, 2) := by decide +kernel
theorem dL_isAnswered_139 : decode cL_isAnswered 139 = .ok (.iload 5, 2) := by decide +kernel
theorem dL_isAnswered_141 : decode cL_isAnswered 141 = .ok (.ifCond .eq 7, 3) := by decide +kernel
theorem dL_isAnswered_144 : decode cL_isAnswered 144 = .ok (.iconst 1, 1) := by decide +kernel
theorem dL_isAnswered_145 : decode cL_isAnswered 145 = .ok (.goto 4, 3) := by decide +kernel
theorem dL_isAnswered_148 : decode cL_isAnswered 148 = .ok (.iconst 0, 1) := by decide +kernel
theorem dL_isAnswered_149 : decode cL_isAnswered 149 = .ok (.iconst 0, 1) := by decide +kernel
theorem dL_isAnswered_150 : decode cL_isAnswered 150 = .ok (.iconst 0, 1) := by decide +kernel
theorem dL_isAnswered_151 : decode cL_isAnswered 151 = .ok (.invokestatic 133, 3) := by decide +kernel
theorem dL_isAnswered_154 : decode cL_isAnswered 154 = .ok (.aload_n 3, 1) := by decide +kernel
theorem dL_isAnswered_155 : decode cL_isAnswered 155 = .ok (.iconst 3, 1) := by decide +kernel
theorem dL_isAnswered_156 : decode cL_isAnswered 156 = .ok (.iaload, 1) := by decide +kernel
theorem dL_isAnswered_157 : decode cL_isAnswered 157 = .ok (.if_icmp .ne 31, 3) := by decide +kernel
theorem dL_isAnswered_160 : decode cL_isAnswered 160 = .ok (.aload_n 0, 1) := by decide +kernel
theorem dL_isAnswered_161 : decode cL_isAnswered 161 = .ok (.iload 7, 2) := by decide +kernel
theorem dL_isAnswered_163 : decode cL_isAnswered 163 = .ok (.iload 6, 2) := by decide +kernel
theorem dL_isAnswered_165 : decode cL_isAnswered 165 = .ok (.invokevirtual 75, 3) := by decide +kernel
theorem dL_isAnswered_168 : decode cL_isAnswered 168 = .ok (.iload 8, 2) := by decide +kernel
theorem dL_isAnswered_170 : decode cL_isAnswered 170 = .ok (.iload 9, 2) := by decide +kernel
theorem dL_isAnswered_172 : decode cL_isAnswered 172 = .ok (.ifCond .eq 7, 3) := by decide +kernel
theorem dL_isAnswered_175 : decode cL_isAnswered 175 = .ok (.iconst 1, 1) := by decide +kernel
theorem dL_isAnswered_176 : decode cL_isAnswered 176 = .ok (.goto 4, 3) := by decide +kernel
theorem dL_isAnswered_179 : decode cL_isAnswered 179 = .ok (.iconst 0, 1) := by decide +kernel
theorem dL_isAnswered_180 : decode cL_isAnswered 180 = .ok (.iadd, 1) := by decide +kernel
theorem dL_isAnswered_181 : decode cL_isAnswered 181 = .ok (.if_icmp .ne 7, 3) := by decide +kernel
theorem dL_isAnswered_184 : decode cL_isAnswered 184 = .ok (.iconst 1, 1) := by decide +kernel
theorem dL_isAnswered_185 : decode cL_isAnswered 185 = .ok (.goto 4, 3) := by decide +kernel
theorem dL_isAnswered_188 : decode cL_isAnswered 188 = .ok (.iconst 0, 1) := by decide +kernel
theorem dL_isAnswered_189 : decode cL_isAnswered 189 = .ok (.ireturn, 1) := by decide +kernel
def f_L_isAnswered_b21 (F Z : Nat) (s : St) (l4 : Int32) (l5 : Int32) : Option (Int32 × St) :=
  if l5 = 0 then
    ((f_L_act F Z s 8 l4 0 0 0).bind fun x3 => (if ct s ≤ ct x3.2 ∧ ct x3.2 ≤ Z then (if x3.1 = (-1243) then
      (some (1, x3.2))
    else
      (some (0, x3.2))) else none))
  else
    ((f_L_act F Z s 8 l4 1 0 0).bind fun x4 => (if ct s ≤ ct x4.2 ∧ ct x4.2 ≤ Z then (if x4.1 = (-1243) then
      (some (1, x4.2))
    else
      (some (0, x4.2))) else none))
def f_L_isAnswered_b149 (F Z : Nat) (s : St) (l6 : Int32) (l7 : Int32) (l8 : Int32) (l9 : Int32) (t1 : Int32) (t2 : Int32) (t3 : Int32) : Option (Int32 × St) :=
  (f_L_act F Z s t1 t2 t3 0 0).bind fun x16 => (if ct s ≤ ct x16.2 ∧ ct x16.2 ≤ Z then ((ix 4 3).bind fun j17 => (if x16.1 = (gA x16.2 39 j17) then
    ((qc Z x16.2 (fun z => f_P_owes F z x16.2 l7 l6)).bind fun x18 => ((an x18.1).bind fun v19 => (if l9 = 0 then
      (if v19 = (l8 + 0) then
        (some (1, x18.2))
      else
        (some (0, x18.2)))
    else
      (if v19 = (l8 + 1) then
        (some (1, x18.2))
      else
        (some (0, x18.2))))))
  else
    (some (0, x16.2)))) else none)
def f_L_isAnswered_b111 (F Z : Nat) (s : St) (l4 : Int32) (l5 : Int32) (l6 : Int32) (l7 : Int32) (l8 : Int32) (t0 : Int32) : Option (Int32 × St) :=
  (ix 64 l4).bind fun j11 => (lt (sA s 44 j11 1) fun s12 => ((ix 4 3).bind fun j13 => (if t0 = 0 then
    ((ix 4 3).bind fun j14 => (lt (sA s12 39 j14 ((gA s12 39 j13) + 0)) fun s15 => (if l5 = 0 then
      (f_L_isAnswered_b149 F Z s15 l6 l7 l8 t0 8 l4 0)
    else
      (f_L_isAnswered_b149 F Z s15 l6 l7 l8 t0 8 l4 1))))
  else
    ((ix 4 3).bind fun j20 => (lt (sA s12 39 j20 ((gA s12 39 j13) + 1)) fun s21 => (if l5 = 0 then
      (f_L_isAnswered_b149 F Z s21 l6 l7 l8 t0 8 l4 0)
    else
      (f_L_isAnswered_b149 F Z s21 l6 l7 l8 t0 8 l4 1)))))))
def f_L_isAnswered (F Z : Nat) (s : St) (p4 : Int32) (p5 : Int32) : Option (Int32 × St) :=
  (qc Z s (fun z => f_P_woken F z s p4)).bind fun x1 => ((an x1.1).bind fun v2 => (if v2 < 0 then
    (f_L_isAnswered_b21 F Z x1.2 p4 p5)
  else
    ((ix 64 p4).bind fun j5 => (if (gA x1.2 44 j5) = 1 then
      (f_L_isAnswered_b21 F Z x1.2 p4 p5)
    else
      ((qc Z x1.2 (fun z => f_P_alarm F z x1.2 p4)).bind fun x6 => ((an x6.1).bind fun v7 => ((ix 48 ((12 : Int32) * (v7 / 10000))).bind fun j8 => ((qc Z x6.2 (fun z => f_P_owes F z x6.2 (gA x6.2 42 j8) v2)).bind fun x9 => ((an x9.1).bind fun v10 => (if p5 = 0 then
        (f_L_isAnswered_b111 F Z x9.2 p4 p5 v2 (gA x6.2 42 j8) v10 0)
      else
        (if (gA x6.2 42 j8) = v2 then
          (f_L_isAnswered_b111 F Z x9.2 p4 p5 v2 (gA x6.2 42 j8) v10 0)
        else
          ((qc Z x9.2 (fun z => f_P_wokenAt F z x9.2 p4)).bind fun x22 => ((an x22.1).bind fun v23 => (if ((v23 / 8) - (v23 / 8) / 3 * 3) = 0 then
            (f_L_isAnswered_b111 F Z x22.2 p4 p5 v2 (gA x6.2 42 j8) v10 1)
          else
            (f_L_isAnswered_b111 F Z x22.2 p4 p5 v2 (gA x6.2 42 j8) v10 0)))))))))))))))
set_option maxHeartbeats 1000000 in
theorem c_f_L_isAnswered_b21 {F Z : Nat} {c0 : Nat} {Γ : Ga} {D : DD} {B : Nat} {r : Int32} {s' : St} (X : Cx Γ RL cL_isAnswered 10 D B (RMg Z c0 804 16500)) (M : RLe (RMg Z c0 804 16500) Z 0 0 c0 804 16500) (Y : Xy Γ B) (hr : (Gme Γ).sig.returnType = (some .boolean)) {s : St} {l4 : Int32} {l5 : Int32} (hc : Hc c0 Z s) (hf : f_L_isAnswered_b21 F Z s l4 l5 = some (r, s')) : V Γ D B true 10 (QX Γ D B true s' (.inl (some (.int r))) (64 * (ct s' - c0)) (768 * (ct s' - c0))) (kg 0 c0 s) (ng 0 c0 s) s 21 [(0, .ref (B + 0)), (4, .int l4), (5, .int l5)] [] := by
  unfold f_L_isAnswered_b21 at hf
  refine r_aload_n (x := some 0) (pc := 21) X dL_isAnswered_21 0 rfl ?_
  refine r_bipush (v := 8) (pc := 22) X dL_isAnswered_22 (by decide) ?_
  refine r_iload (pc := 24) X dL_isAnswered_24 1 rfl ?_
  refine r_iload (pc := 26) X dL_isAnswered_26 2 rfl ?_
  refine b_if_eq (tgt := 35) (pc := 28) X dL_isAnswered_28 (by decide) hf (fun hf => ?_) (fun hf => ?_)
  · refine r_iconst (v := 0) (pc := 35) X dL_isAnswered_35 (by decide) ?_
    refine r_iconst (v := 0) (pc := 36) X dL_isAnswered_36 (by decide) ?_
    refine r_iconst (v := 0) (pc := 37) X dL_isAnswered_37 (by decide) ?_
    refine bnd hf (fun x3 h3 hf => ?_)
    refine ifo hf (fun hz hf => ?_)
    refine y_callWSi (As := [.ref (B + 0), .int 8, .int l4, .int 0, .int 0, .int 0]) (st := []) (pc := 38) X M Y hc (c_f_L_act h3 hc.2) rfl w_437 w_438 w_35 w_439 hdS_L_act (by decide) hz (Nat.le_of_ble_eq_true rfl) dL_isAnswered_38 rfl (fun hc => ?_)
    refine r_sipush (v := -1243) (pc := 41) X dL_isAnswered_41 (by decide) ?_
    refine b_icmp_ne (tgt := 51) (pc := 44) X dL_isAnswered_44 (by decide) hf (fun hf => ?_) (fun hf => ?_)
    · refine r_iconst (v := 1) (pc := 47) X dL_isAnswered_47 (by decide) ?_
      refine r_goto (tgt := 52) (pc := 48) X dL_isAnswered_48 (by decide) ?_
      exact y_zret (pc := 52) X hr (by decide) hf dL_isAnswered_52
    · refine r_iconst (v := 0) (pc := 51) X dL_isAnswered_51 (by decide) ?_
      exact y_zret (pc := 52) X hr (by decide) hf dL_isAnswered_52
  · refine r_iconst (v := 1) (pc := 31) X dL_isAnswered_31 (by decide) ?_
    refine r_goto (tgt := 36) (pc := 32) X dL_isAnswered_32 (by decide) ?_
    refine r_iconst (v := 0) (pc := 36) X dL_isAnswered_36 (by decide) ?_
    refine r_iconst (v := 0) (pc := 37) X dL_isAnswered_37 (by decide) ?_
    refine bnd hf (fun x4 h4 hf => ?_)
    refine ifo hf (fun hz hf => ?_)
    refine y_callWSi (As := [.ref (B + 0), .int 8, .int l4, .int 1, .int 0, .int 0]) (st := []) (pc := 38) X M Y hc (c_f_L_act h4 hc.2) rfl w_437 w_438 w_35 w_439 hdS_L_act (by decide) hz (Nat.le_of_ble_eq_true rfl) dL_isAnswered_38 rfl (fun hc => ?_)
    refine r_sipush (v := -1243) (pc := 41) X dL_isAnswered_41 (by decide) ?_
    refine b_icmp_ne (tgt := 51) (pc := 44) X dL_isAnswered_44 (by decide) hf (fun hf => ?_) (fun hf => ?_)
    · refine r_iconst (v := 1) (pc := 47) X dL_isAnswered_47 (by decide) ?_
      refine r_goto (tgt := 52) (pc := 48) X dL_isAnswered_48 (by decide) ?_
      exact y_zret (pc := 52) X hr (by decide) hf dL_isAnswered_52
    · refine r_iconst (v := 0) (pc := 51) X dL_isAnswered_51 (by decide) ?_
      exact y_zret (pc := 52) X hr (by decide) hf dL_isAnswered_52
set_option maxHeartbeats 1000000 in
theorem c_f_L_isAnswered_b149 {F Z : Nat} {c0 : Nat} {Γ : Ga} {D : DD} {B : Nat} {r : Int32} {s' : St} (X : Cx Γ RL cL_isAnswered 10 D B (RMg Z c0 804 16500)) (M : RLe (RMg Z c0 804 16500) Z 0 0 c0 804 16500) (Y : Xy Γ B) (hr : (Gme Γ).sig.returnType = (some .boolean)) {s : St} {l6 : Int32} {l7 : Int32} {l8 : Int32} {l9 : Int32} {t1 : Int32} {t2 : Int32} {t3 : Int32} (hc : Hc c0 Z s) (hf : f_L_isAnswered_b149 F Z s l6 l7 l8 l9 t1 t2 t3 = some (r, s')) : V Γ D B true 10 (QX Γ D B true s' (.inl (some (.int r))) (64 * (ct s' - c0)) (768 * (ct s' - c0))) (kg 0 c0 s) (ng 0 c0 s) s 149 [(0, .ref (B + 0)), (3, .ref (B + 39)), (6, .int l6), (7, .int l7), (8, .int l8), (9, .int l9)] [.int t3, .int t2, .int t1, .ref (B + 0)] := by
  unfold f_L_isAnswered_b149 at hf
  refine r_iconst (v := 0) (pc := 149) X dL_isAnswered_149 (by decide) ?_
  refine r_iconst (v := 0) (pc := 150) X dL_isAnswered_150 (by decide) ?_
  refine bnd hf (fun x16 h16 hf => ?_)
  refine ifo hf (fun hz hf => ?_)
  refine y_callWSi (As := [.ref (B + 0), .int t1, .int t2, .int t3, .int 0, .int 0]) (st := []) (pc := 151) X M Y hc (c_f_L_act h16 hc.2) rfl w_437 w_438 w_35 w_439 hdS_L_act (by decide) hz (Nat.le_of_ble_eq_true rfl) dL_isAnswered_151 rfl (fun hc => ?_)
  refine r_aload_n (x := some 39) (pc := 154) X dL_isAnswered_154 1 rfl ?_
  refine r_iconst (v := 3) (pc := 155) X dL_isAnswered_155 (by decide) ?_
  refine b_iald (pc := 156) X ce_39 dL_isAnswered_156 hf (fun j17 hf => ?_)
  refine b_icmp_ne (tgt := 188) (pc := 157) X dL_isAnswered_157 (by decide) hf (fun hf => ?_) (fun hf => ?_)
  · refine r_aload_n (x := some 0) (pc := 160) X dL_isAnswered_160 0 rfl ?_
    refine r_iload (pc := 161) X dL_isAnswered_161 3 rfl ?_
    refine r_iload (pc := 163) X dL_isAnswered_163 2 rfl ?_
    refine bnd hf (fun x18 h18 hf => ?_)
    refine bnd hf (fun v19 h18v hf => ?_)
    refine y_callXVi (As := [.int l7, .int l6]) (st := []) (pc := 165) X M Y hc (qc_run (ou := ouI) hc.2 (fun z x h => c_f_P_owes h) h18) rfl w_818 w_819 w_820 w_36 w_821 hdV_X10_owes (Rc.s rfl ce_0) (by decide) (Nat.le_of_ble_eq_true rfl) dL_isAnswered_165 rfl h18v (fun hc => ?_)
    refine r_iload (pc := 168) X dL_isAnswered_168 4 rfl ?_
    refine r_iload (pc := 170) X dL_isAnswered_170 5 rfl ?_
    refine b_if_eq (tgt := 179) (pc := 172) X dL_isAnswered_172 (by decide) hf (fun hf => ?_) (fun hf => ?_)
    · refine r_iconst (v := 0) (pc := 179) X dL_isAnswered_179 (by decide) ?_
      refine r_iadd (pc := 180) X dL_isAnswered_180 ?_
      refine b_icmp_ne (tgt := 188) (pc := 181) X dL_isAnswered_181 (by decide) hf (fun hf => ?_) (fun hf => ?_)
      · refine r_iconst (v := 1) (pc := 184) X dL_isAnswered_184 (by decide) ?_
        refine r_goto (tgt := 189) (pc := 185) X dL_isAnswered_185 (by decide) ?_
        exact y_zret (pc := 189) X hr (by decide) hf dL_isAnswered_189
      · refine r_iconst (v := 0) (pc := 188) X dL_isAnswered_188 (by decide) ?_
        exact y_zret (pc := 189) X hr (by decide) hf dL_isAnswered_189
    · refine r_iconst (v := 1) (pc := 175) X dL_isAnswered_175 (by decide) ?_
      refine r_goto (tgt := 180) (pc := 176) X dL_isAnswered_176 (by decide) ?_
      refine r_iadd (pc := 180) X dL_isAnswered_180 ?_
      refine b_icmp_ne (tgt := 188) (pc := 181) X dL_isAnswered_181 (by decide) hf (fun hf => ?_) (fun hf => ?_)
      · refine r_iconst (v := 1) (pc := 184) X dL_isAnswered_184 (by decide) ?_
        refine r_goto (tgt := 189) (pc := 185) X dL_isAnswered_185 (by decide) ?_
        exact y_zret (pc := 189) X hr (by decide) hf dL_isAnswered_189
      · refine r_iconst (v := 0) (pc := 188) X dL_isAnswered_188 (by decide) ?_
        exact y_zret (pc := 189) X hr (by decide) hf dL_isAnswered_189
  · refine r_iconst (v := 0) (pc := 188) X dL_isAnswered_188 (by decide) ?_
    exact y_zret (pc := 189) X hr (by decide) hf dL_isAnswered_189
set_option maxHeartbeats 1000000 in
theorem c_f_L_isAnswered_b111 {F Z : Nat} {c0 : Nat} {Γ : Ga} {D : DD} {B : Nat} {r : Int32} {s' : St} (X : Cx Γ RL cL_isAnswered 10 D B (RMg Z c0 804 16500)) (M : RLe (RMg Z c0 804 16500) Z 0 0 c0 804 16500) (Y : Xy Γ B) (hr : (Gme Γ).sig.returnType = (some .boolean)) {s : St} {l4 : Int32} {l5 : Int32} {l6 : Int32} {l7 : Int32} {l8 : Int32} {t0 : Int32} (hc : Hc c0 Z s) (hf : f_L_isAnswered_b111 F Z s l4 l5 l6 l7 l8 t0 = some (r, s')) : V Γ D B true 10 (QX Γ D B true s' (.inl (some (.int r))) (64 * (ct s' - c0)) (768 * (ct s' - c0))) (kg 0 c0 s) (ng 0 c0 s) s 111 [(0, .ref (B + 0)), (2, .ref (B + 44)), (3, .ref (B + 39)), (4, .int l4), (5, .int l5), (6, .int l6), (7, .int l7), (8, .int l8)] [.int t0] := by
  unfold f_L_isAnswered_b111 at hf
  refine r_istore (pc := 111) (lv' := [(0, .ref (B + 0)), (2, .ref (B + 44)), (3, .ref (B + 39)), (4, .int l4), (5, .int l5), (6, .int l6), (7, .int l7), (8, .int l8), (9, .int t0)]) X dL_isAnswered_111 (by decide) [1, 2, 3, 4, 5, 6, 7, 8, 0] rfl ?_
  refine r_aload_n (x := some 44) (pc := 113) X dL_isAnswered_113 1 rfl ?_
  refine r_iload (pc := 114) X dL_isAnswered_114 3 rfl ?_
  refine r_iconst (v := 1) (pc := 116) X dL_isAnswered_116 (by decide) ?_
  refine y_iast (pc := 117) X ce_44 (fun _ => ca_44 _ _) dL_isAnswered_117 hf (fun j11 s12 e9 hf => ?_)
  have hc := hc.eq e9
  refine r_aload_n (x := some 39) (pc := 118) X dL_isAnswered_118 2 rfl ?_
  refine r_iconst (v := 3) (pc := 119) X dL_isAnswered_119 (by decide) ?_
  refine r_dup2 (pc := 120) X dL_isAnswered_120 rfl rfl ?_
  refine b_iald (pc := 121) X ce_39 dL_isAnswered_121 hf (fun j13 hf => ?_)
  refine r_iload (pc := 122) X dL_isAnswered_122 8 rfl ?_
  refine b_if_eq (tgt := 131) (pc := 124) X dL_isAnswered_124 (by decide) hf (fun hf => ?_) (fun hf => ?_)
  · refine r_iconst (v := 0) (pc := 131) X dL_isAnswered_131 (by decide) ?_
    refine r_iadd (pc := 132) X dL_isAnswered_132 ?_
    refine y_iast (pc := 133) X ce_39 (fun _ => ca_39 _ _) dL_isAnswered_133 hf (fun j14 s15 e9 hf => ?_)
    have hc := hc.eq e9
    refine r_aload_n (x := some 0) (pc := 134) X dL_isAnswered_134 0 rfl ?_
    refine r_bipush (v := 8) (pc := 135) X dL_isAnswered_135 (by decide) ?_
    refine r_iload (pc := 137) X dL_isAnswered_137 3 rfl ?_
    refine r_iload (pc := 139) X dL_isAnswered_139 4 rfl ?_
    refine b_if_eq (tgt := 148) (pc := 141) X dL_isAnswered_141 (by decide) hf (fun hf => ?_) (fun hf => ?_)
    · refine r_iconst (v := 0) (pc := 148) X dL_isAnswered_148 (by decide) ?_
      refine r_forget (lv' := [(0, .ref (B + 0)), (3, .ref (B + 39)), (6, .int l6), (7, .int l7), (8, .int l8), (9, .int t0)]) [0, 2, 5, 6, 7, 8] rfl ?_
      exact c_f_L_isAnswered_b149 X M Y hr hc hf
    · refine r_iconst (v := 1) (pc := 144) X dL_isAnswered_144 (by decide) ?_
      refine r_goto (tgt := 149) (pc := 145) X dL_isAnswered_145 (by decide) ?_
      refine r_forget (lv' := [(0, .ref (B + 0)), (3, .ref (B + 39)), (6, .int l6), (7, .int l7), (8, .int l8), (9, .int t0)]) [0, 2, 5, 6, 7, 8] rfl ?_
      exact c_f_L_isAnswered_b149 X M Y hr hc hf
  · refine r_iconst (v := 1) (pc := 127) X dL_isAnswered_127 (by decide) ?_
    refine r_goto (tgt := 132) (pc := 128) X dL_isAnswered_128 (by decide) ?_
    refine r_iadd (pc := 132) X dL_isAnswered_132 ?_
    refine y_iast (pc := 133) X ce_39 (fun _ => ca_39 _ _) dL_isAnswered_133 hf (fun j20 s21 e9 hf => ?_)
    have hc := hc.eq e9
    refine r_aload_n (x := some 0) (pc := 134) X dL_isAnswered_134 0 rfl ?_
    refine r_bipush (v := 8) (pc := 135) X dL_isAnswered_135 (by decide) ?_
    refine r_iload (pc := 137) X dL_isAnswered_137 3 rfl ?_
    refine r_iload (pc := 139) X dL_isAnswered_139 4 rfl ?_
    refine b_if_eq (tgt := 148) (pc := 141) X dL_isAnswered_141 (by decide) hf (fun hf => ?_) (fun hf => ?_)
    · refine r_iconst (v := 0) (pc := 148) X dL_isAnswered_148 (by decide) ?_
      refine r_forget (lv' := [(0, .ref (B + 0)), (3, .ref (B + 39)), (6, .int l6), (7, .int l7), (8, .int l8), (9, .int t0)]) [0, 2, 5, 6, 7, 8] rfl ?_
      exact c_f_L_isAnswered_b149 X M Y hr hc hf
    · refine r_iconst (v := 1) (pc := 144) X dL_isAnswered_144 (by decide) ?_
      refine r_goto (tgt := 149) (pc := 145) X dL_isAnswered_145 (by decide) ?_
      refine r_forget (lv' := [(0, .ref (B + 0)), (3, .ref (B + 39)), (6, .int l6), (7, .int l7), (8, .int l8), (9, .int t0)]) [0, 2, 5, 6, 7, 8] rfl ?_
      exact c_f_L_isAnswered_b149 X M Y hr hc hf
set_option maxHeartbeats 1000000 in
theorem c_f_L_isAnswered {F Z : Nat} {s : St} {p4 : Int32} {p5 : Int32} {r : Int32} {s' : St} (hf : f_L_isAnswered F Z s p4 p5 = some (r, s')) (hz : ct s ≤ Z) : CX true yL_isAnswered (Cond.code yL_isAnswered cL_isAnswered 10 (some .boolean)) 804 16500 (64 * (Z - ct s)) (768 * (Z - ct s)) (fun B => [.ref (B + 0), .ref (B + 42), .ref (B + 44), .ref (B + 39), .int p4, .int p5]) s (fun B => .inl (some (.int r))) s' (64 * (ct s' - ct s)) (768 * (ct s' - ct s)) := by
  refine CX.ofL (fun B => [(0, .ref (B + 0)), (1, .ref (B + 42)), (2, .ref (B + 44)), (3, .ref (B + 39)), (4, .int p4), (5, .int p5)]) (by decide +kernel) (fun _ => rfl) (fun _ => (by simp [lg_sl, rfB_cat, catI, catL, catR])) (fun Γ D B X Y hr => ?_)
  have X : Cx Γ RL cL_isAnswered 10 D B (RMg Z (ct s) 804 16500) := X
  have M : RLe (RMg Z (ct s) 804 16500) Z 0 0 (ct s) 804 16500 := RLe.rf
  have hc : Hc (ct s) Z s := ⟨Nat.le_refl _, hz⟩
  unfold f_L_isAnswered at hf
  refine r_aload_n (x := some 0) (pc := 0) X dL_isAnswered_0 0 rfl ?_
  refine r_iload (pc := 1) X dL_isAnswered_1 4 rfl ?_
  refine bnd hf (fun x1 h1 hf => ?_)
  refine bnd hf (fun v2 h1v hf => ?_)
  refine y_callXVi (As := [.int p4]) (st := []) (pc := 3) X M Y hc (qc_run (ou := ouI) hc.2 (fun z x h => c_f_P_woken h) h1) rfl w_838 w_839 w_840 w_36 w_841 hdV_X10_woken (Rc.s rfl ce_0) (by decide) (Nat.le_of_ble_eq_true rfl) dL_isAnswered_3 rfl h1v (fun hc => ?_)
  refine r_istore (pc := 6) (lv' := [(0, .ref (B + 0)), (1, .ref (B + 42)), (2, .ref (B + 44)), (3, .ref (B + 39)), (4, .int p4), (5, .int p5), (6, .int v2)]) X dL_isAnswered_6 (by decide) [1, 2, 3, 4, 5, 6, 0] rfl ?_
  refine r_iload (pc := 8) X dL_isAnswered_8 6 rfl ?_
  refine b_if_lt (tgt := 21) (pc := 10) X dL_isAnswered_10 (by decide) hf (fun hf => ?_) (fun hf => ?_)
  · refine r_forget (lv' := [(0, .ref (B + 0)), (4, .int p4), (5, .int p5)]) [0, 4, 5] rfl ?_
    exact c_f_L_isAnswered_b21 X M Y hr hc hf
  · refine r_aload_n (x := some 44) (pc := 13) X dL_isAnswered_13 2 rfl ?_
    refine r_iload (pc := 14) X dL_isAnswered_14 4 rfl ?_
    refine b_iald (pc := 16) X ce_44 dL_isAnswered_16 hf (fun j5 hf => ?_)
    refine r_iconst (v := 1) (pc := 17) X dL_isAnswered_17 (by decide) ?_
    refine b_icmp_ne (tgt := 53) (pc := 18) X dL_isAnswered_18 (by decide) hf (fun hf => ?_) (fun hf => ?_)
    · refine r_forget (lv' := [(0, .ref (B + 0)), (4, .int p4), (5, .int p5)]) [0, 4, 5] rfl ?_
      exact c_f_L_isAnswered_b21 X M Y hr hc hf
    · refine r_aload_n (x := some 42) (pc := 53) X dL_isAnswered_53 1 rfl ?_
      refine r_bipush (v := 12) (pc := 54) X dL_isAnswered_54 (by decide) ?_
      refine r_aload_n (x := some 0) (pc := 56) X dL_isAnswered_56 0 rfl ?_
      refine r_iload (pc := 57) X dL_isAnswered_57 4 rfl ?_
      refine bnd hf (fun x6 h6 hf => ?_)
      refine bnd hf (fun v7 h6v hf => ?_)
      refine y_callXVi (As := [.int p4]) (st := [.int 12, .ref (B + 42)]) (pc := 59) X M Y hc (qc_run (ou := ouI) hc.2 (fun z x h => c_f_P_alarm h) h6) rfl w_834 w_835 w_836 w_36 w_837 hdV_X10_alarm (Rc.s rfl ce_0) (by decide) (Nat.le_of_ble_eq_true rfl) dL_isAnswered_59 rfl h6v (fun hc => ?_)
      refine r_sipush (v := 10000) (pc := 62) X dL_isAnswered_62 (by decide) ?_
      refine r_idiv (pc := 65) X dL_isAnswered_65 (by decide) ?_
      refine r_imul (pc := 66) X dL_isAnswered_66 ?_
      refine b_iald (pc := 67) X ce_42 dL_isAnswered_67 hf (fun j8 hf => ?_)
      refine r_istore (pc := 68) (lv' := [(0, .ref (B + 0)), (2, .ref (B + 44)), (3, .ref (B + 39)), (4, .int p4), (5, .int p5), (6, .int v2), (7, .int (gA x6.2 42 j8))]) X dL_isAnswered_68 (by decide) [1, 3, 4, 5, 6, 7, 0] rfl ?_
      refine r_aload_n (x := some 0) (pc := 70) X dL_isAnswered_70 0 rfl ?_
      refine r_iload (pc := 71) X dL_isAnswered_71 6 rfl ?_
      refine r_iload (pc := 73) X dL_isAnswered_73 5 rfl ?_
      refine bnd hf (fun x9 h9 hf => ?_)
      refine bnd hf (fun v10 h9v hf => ?_)
      refine y_callXVi (As := [.int (gA x6.2 42 j8), .int v2]) (st := []) (pc := 75) X M Y hc (qc_run (ou := ouI) hc.2 (fun z x h => c_f_P_owes h) h9) rfl w_818 w_819 w_820 w_36 w_821 hdV_X10_owes (Rc.s rfl ce_0) (by decide) (Nat.le_of_ble_eq_true rfl) dL_isAnswered_75 rfl h9v (fun hc => ?_)
      refine r_istore (pc := 78) (lv' := [(0, .ref (B + 0)), (2, .ref (B + 44)), (3, .ref (B + 39)), (4, .int p4), (5, .int p5), (6, .int v2), (7, .int (gA x6.2 42 j8)), (8, .int v10)]) X dL_isAnswered_78 (by decide) [1, 2, 3, 4, 5, 6, 7, 0] rfl ?_
      refine r_iload (pc := 80) X dL_isAnswered_80 4 rfl ?_
      refine b_if_eq (tgt := 110) (pc := 82) X dL_isAnswered_82 (by decide) hf (fun hf => ?_) (fun hf => ?_)
      · refine r_iconst (v := 0) (pc := 110) X dL_isAnswered_110 (by decide) ?_
        exact c_f_L_isAnswered_b111 X M Y hr hc hf
      · refine r_iload (pc := 85) X dL_isAnswered_85 6 rfl ?_
        refine r_iload (pc := 87) X dL_isAnswered_87 5 rfl ?_
        refine b_icmp_eq (tgt := 110) (pc := 89) X dL_isAnswered_89 (by decide) hf (fun hf => ?_) (fun hf => ?_)
        · refine r_iconst (v := 0) (pc := 110) X dL_isAnswered_110 (by decide) ?_
          exact c_f_L_isAnswered_b111 X M Y hr hc hf
        · refine r_aload_n (x := some 0) (pc := 92) X dL_isAnswered_92 0 rfl ?_
          refine r_iload (pc := 93) X dL_isAnswered_93 3 rfl ?_
          refine bnd hf (fun x22 h22 hf => ?_)
          refine bnd hf (fun v23 h22v hf => ?_)
          refine y_callXVi (As := [.int p4]) (st := []) (pc := 95) X M Y hc (qc_run (ou := ouI) hc.2 (fun z x h => c_f_P_wokenAt h) h22) rfl w_842 w_843 w_844 w_36 w_845 hdV_X10_wokenAt (Rc.s rfl ce_0) (by decide) (Nat.le_of_ble_eq_true rfl) dL_isAnswered_95 rfl h22v (fun hc => ?_)
          refine r_bipush (v := 8) (pc := 98) X dL_isAnswered_98 (by decide) ?_
          refine r_idiv (pc := 100) X dL_isAnswered_100 (by decide) ?_
          refine r_iconst (v := 3) (pc := 101) X dL_isAnswered_101 (by decide) ?_
          refine r_irem (pc := 102) X dL_isAnswered_102 (by decide) ?_
          refine b_if_ne (tgt := 110) (pc := 103) X dL_isAnswered_103 (by decide) hf (fun hf => ?_) (fun hf => ?_)
          · refine r_iconst (v := 1) (pc := 106) X dL_isAnswered_106 (by decide) ?_
            refine r_goto (tgt := 111) (pc := 107) X dL_isAnswered_107 (by decide) ?_
            exact c_f_L_isAnswered_b111 X M Y hr hc hf
          · refine r_iconst (v := 0) (pc := 110) X dL_isAnswered_110 (by decide) ?_
            exact c_f_L_isAnswered_b111 X M Y hr hc hf
/-! f_L_isRefused -/
theorem dL_isRefused_0 : decode cL_isRefused 0 = .ok (.iload_n 3, 1) := by decide +kernel
theorem dL_isRefused_1 : decode cL_isRefused 1 = .ok (.iconst 2, 1) := by decide +kernel
theorem dL_isRefused_2 : decode cL_isRefused 2 = .ok (.irem, 1) := by decide +kernel
theorem dL_isRefused_3 : decode cL_isRefused 3 = .ok (.ifCond .ne 7, 3) := by decide +kernel
theorem dL_isRefused_6 : decode cL_isRefused 6 = .ok (.iconst 1, 1) := by decide +kernel
theorem dL_isRefused_7 : decode cL_isRefused 7 = .ok (.goto 4, 3) := by decide +kernel
theorem dL_isRefused_10 : decode cL_isRefused 10 = .ok (.iconst 0, 1) := by decide +kernel
theorem dL_isRefused_11 : decode cL_isRefused 11 = .ok (.istore 4, 2) := by decide +kernel
theorem dL_isRefused_13 : decode cL_isRefused 13 = .ok (.iload 4, 2) := by decide +kernel
theorem dL_isRefused_15 : decode cL_isRefused 15 = .ok (.ifCond .eq 12, 3) := by decide +kernel
theorem dL_isRefused_18 : decode cL_isRefused 18 = .ok (.iconst (-1), 1) := by decide +kernel
theorem dL_isRefused_19 : decode cL_isRefused 19 = .ok (.iload_n 3, 1) := by decide +kernel
theorem dL_isRefused_20 : decode cL_isRefused 20 = .ok (.bipush 30, 2) := by decide +kernel
theorem dL_isRefused_22 : decode cL_isRefused 22 = .ok (.irem, 1) := by decide +kernel
theorem dL_isRefused_23 : decode cL_isRefused 23 = .ok (.isub, 1) := by decide +kernel
theorem dL_isRefused_24 : decode cL_isRefused 24 = .ok (.goto 11, 3) := by decide +kernel
theorem dL_isRefused_27 : decode cL_isRefused 27 = .ok (.aload_n 2, 1) := by decide +kernel
theorem dL_isRefused_28 : decode cL_isRefused 28 = .ok (.iconst 0, 1) := by decide +kernel
theorem dL_isRefused_29 : decode cL_isRefused 29 = .ok (.iaload, 1) := by decide +kernel
theorem dL_isRefused_30 : decode cL_isRefused 30 = .ok (.iload_n 3, 1) := by decide +kernel
theorem dL_isRefused_31 : decode cL_isRefused 31 = .ok (.bipush 30, 2) := by decide +kernel
theorem dL_isRefused_33 : decode cL_isRefused 33 = .ok (.irem, 1) := by decide +kernel
theorem dL_isRefused_34 : decode cL_isRefused 34 = .ok (.iadd, 1) := by decide +kernel
theorem dL_isRefused_35 : decode cL_isRefused 35 = .ok (.istore 5, 2) := by decide +kernel
theorem dL_isRefused_37 : decode cL_isRefused 37 = .ok (.iload 4, 2) := by decide +kernel
theorem dL_isRefused_39 : decode cL_isRefused 39 = .ok (.ifCond .eq 12, 3) := by decide +kernel
theorem dL_isRefused_42 : decode cL_isRefused 42 = .ok (.iconst (-1), 1) := by decide +kernel
theorem dL_isRefused_43 : decode cL_isRefused 43 = .ok (.iload_n 3, 1) := by decide +kernel
theorem dL_isRefused_44 : decode cL_isRefused 44 = .ok (.bipush 30, 2) := by decide +kernel
theorem dL_isRefused_46 : decode cL_isRefused 46 = .ok (.irem, 1) := by decide +kernel
theorem dL_isRefused_47 : decode cL_isRefused 47 = .ok (.isub, 1) := by decide +kernel
theorem dL_isRefused_48 : decode cL_isRefused 48 = .ok (.goto 11, 3) := by decide +kernel
theorem dL_isRefused_51 : decode cL_isRefused 51 = .ok (.aload_n 2, 1) := by decide +kernel
theorem dL_isRefused_52 : decode cL_isRefused 52 = .ok (.iconst 1, 1) := by decide +kernel
theorem dL_isRefused_53 : decode cL_isRefused 53 = .ok (.iaload, 1) := by decide +kernel
theorem dL_isRefused_54 : decode cL_isRefused 54 = .ok (.iload_n 3, 1) := by decide +kernel
theorem dL_isRefused_55 : decode cL_isRefused 55 = .ok (.bipush 30, 2) := by decide +kernel
theorem dL_isRefused_57 : decode cL_isRefused 57 = .ok (.irem, 1) := by decide +kernel
theorem dL_isRefused_58 : decode cL_isRefused 58 = .ok (.iadd, 1) := by decide +kernel
theorem dL_isRefused_59 : decode cL_isRefused 59 = .ok (.istore 6, 2) := by decide +kernel
theorem dL_isRefused_61 : decode cL_isRefused 61 = .ok (.iload 4, 2) := by decide +kernel
theorem dL_isRefused_63 : decode cL_isRefused 63 = .ok (.ifCond .eq 12, 3) := by decide +kernel
theorem dL_isRefused_66 : decode cL_isRefused 66 = .ok (.iconst (-1), 1) := by decide +kernel
theorem dL_isRefused_67 : decode cL_isRefused 67 = .ok (.iload_n 3, 1) := by decide +kernel
theorem dL_isRefused_68 : decode cL_isRefused 68 = .ok (.bipush 30, 2) := by decide +kernel
theorem dL_isRefused_70 : decode cL_isRefused 70 = .ok (.irem, 1) := by decide +kernel
theorem dL_isRefused_71 : decode cL_isRefused 71 = .ok (.isub, 1) := by decide +kernel
theorem dL_isRefused_72 : decode cL_isRefused 72 = .ok (.goto 12, 3) := by decide +kernel
theorem dL_isRefused_75 : decode cL_isRefused 75 = .ok (.aload_n 0, 1) := by decide +kernel
theorem dL_isRefused_76 : decode cL_isRefused 76 = .ok (.invokevirtual 108, 3) := by decide +kernel
theorem dL_isRefused_79 : decode cL_isRefused 79 = .ok (.iload_n 3, 1) := by decide +kernel
theorem dL_isRefused_80 : decode cL_isRefused 80 = .ok (.bipush 30, 2) := by decide +kernel
theorem dL_isRefused_82 : decode cL_isRefused 82 = .ok (.irem, 1) := by decide +kernel
theorem dL_isRefused_83 : decode cL_isRefused 83 = .ok (.iadd, 1) := by decide +kernel
theorem dL_isRefused_84 : decode cL_isRefused 84 = .ok (.istore 7, 2) := by decide +kernel
theorem dL_isRefused_86 : decode cL_isRefused 86 = .ok (.aload_n 0, 1) := by decide +kernel
theorem dL_isRefused_87 : decode cL_isRefused 87 = .ok (.invokevirtual 103, 3) := by decide +kernel
theorem dL_isRefused_90 : decode cL_isRefused 90 = .ok (.bipush 8, 2) := by decide +kernel
theorem dL_isRefused_92 : decode cL_isRefused 92 = .ok (.idiv, 1) := by decide +kernel
theorem dL_isRefused_93 : decode cL_isRefused 93 = .ok (.istore 8, 2) := by decide +kernel
theorem dL_isRefused_95 : decode cL_isRefused 95 = .ok (.aload_n 0, 1) := by decide +kernel
theorem dL_isRefused_96 : decode cL_isRefused 96 = .ok (.aload_n 2, 1) := by decide +kernel
theorem dL_isRefused_97 : decode cL_isRefused 97 = .ok (.invokestatic 172, 3) := by decide +kernel
theorem dL_isRefused_100 : decode cL_isRefused 100 = .ok (.lstore 9, 2) := by decide +kernel
theorem dL_isRefused_102 : decode cL_isRefused 102 = .ok (.aload_n 0, 1) := by decide +kernel
theorem dL_isRefused_103 : decode cL_isRefused 103 = .ok (.iconst 0, 1) := by decide +kernel
theorem dL_isRefused_104 : decode cL_isRefused 104 = .ok (.iload 4, 2) := by decide +kernel
theorem dL_isRefused_106 : decode cL_isRefused 106 = .ok (.ifCond .eq 13, 3) := by decide +kernel
theorem dL_isRefused_109 : decode cL_isRefused 109 = .ok (.bipush 31, 2) := by decide +kernel
theorem dL_isRefused_111 : decode cL_isRefused 111 = .ok (.iload_n 3, 1) := by decide +kernel
theorem dL_isRefused_112 : decode cL_isRefused 112 = .ok (.bipush 30, 2) := by decide +kernel
theorem dL_isRefused_114 : decode cL_isRefused 114 = .ok (.irem, 1) := by decide +kernel
theorem dL_isRefused_115 : decode cL_isRefused 115 = .ok (.isub, 1) := by decide +kernel
theorem dL_isRefused_116 : decode cL_isRefused 116 = .ok (.goto 10, 3) := by decide +kernel
theorem dL_isRefused_119 : decode cL_isRefused 119 = .ok (.bipush 127, 2) := by decide +kernel
theorem dL_isRefused_121 : decode cL_isRefused 121 = .ok (.iload_n 3, 1) := by decide +kernel
theorem dL_isRefused_122 : decode cL_isRefused 122 = .ok (.bipush 30, 2) := by decide +kernel
theorem dL_isRefused_124 : decode cL_isRefused 124 = .ok (.irem, 1) := by decide +kernel
theorem dL_isRefused_125 : decode cL_isRefused 125 = .ok (.iadd, 1) := by decide +kernel
theorem dL_isRefused_126 : decode cL_isRefused 126 = .ok (.iconst 0, 1) := by decide +kernel
theorem dL_isRefused_127 : decode cL_isRefused 127 = .ok (.iconst 0, 1) := by decide +kernel
theorem dL_isRefused_128 : decode cL_isRefused 128 = .ok (.iconst 0, 1) := by decide +kernel
theorem dL_isRefused_129 : decode cL_isRefused 129 = .ok (.invokestatic 133, 3) := by decide +kernel
theorem dL_isRefused_132 : decode cL_isRefused 132 = .ok (.sipush (-1242), 3) := by decide +kernel
theorem dL_isRefused_135 : decode cL_isRefused 135 = .ok (.if_icmp .ne 478, 3) := by decide +kernel
theorem dL_isRefused_138 : decode cL_isRefused 138 = .ok (.aload_n 0, 1) := by decide +kernel
theorem dL_isRefused_139 : decode cL_isRefused 139 = .ok (.iconst 1, 1) := by decide +kernel
theorem dL_isRefused_140 : decode cL_isRefused 140 = .ok (.iload 4, 2) := by decide +kernel
theorem dL_isRefused_142 : decode cL_isRefused 142 = .ok (.ifCond .eq 12, 3) := by decide +kernel
theorem dL_isRefused_145 : decode cL_isRefused 145 = .ok (.iconst 0, 1) := by decide +kernel
theorem dL_isRefused_146 : decode cL_isRefused 146 = .ok (.iload_n 3, 1) := by decide +kernel
theorem dL_isRefused_147 : decode cL_isRefused 147 = .ok (.bipush 30, 2) := by decide +kernel
theorem dL_isRefused_149 : decode cL_isRefused 149 = .ok (.irem, 1) := by decide +kernel
theorem dL_isRefused_150 : decode cL_isRefused 150 = .ok (.isub, 1) := by decide +kernel
theorem dL_isRefused_151 : decode cL_isRefused 151 = .ok (.goto 10, 3) := by decide +kernel
theorem dL_isRefused_154 : decode cL_isRefused 154 = .ok (.bipush 25, 2) := by decide +kernel
theorem dL_isRefused_156 : decode cL_isRefused 156 = .ok (.iload_n 3, 1) := by decide +kernel
theorem dL_isRefused_157 : decode cL_isRefused 157 = .ok (.bipush 30, 2) := by decide +kernel
theorem dL_isRefused_159 : decode cL_isRefused 159 = .ok (.irem, 1) := by decide +kernel
theorem dL_isRefused_160 : decode cL_isRefused 160 = .ok (.iadd, 1) := by decide +kernel
theorem dL_isRefused_161 : decode cL_isRefused 161 = .ok (.iconst 0, 1) := by decide +kernel
theorem dL_isRefused_162 : decode cL_isRefused 162 = .ok (.iconst 0, 1) := by decide +kernel
theorem dL_isRefused_163 : decode cL_isRefused 163 = .ok (.iconst 0, 1) := by decide +kernel
theorem dL_isRefused_164 : decode cL_isRefused 164 = .ok (.invokestatic 133, 3) := by decide +kernel
theorem dL_isRefused_167 : decode cL_isRefused 167 = .ok (.sipush (-1242), 3) := by decide +kernel
theorem dL_isRefused_170 : decode cL_isRefused 170 = .ok (.if_icmp .ne 443, 3) := by decide +kernel
theorem dL_isRefused_173 : decode cL_isRefused 173 = .ok (.aload_n 0, 1) := by decide +kernel
theorem dL_isRefused_174 : decode cL_isRefused 174 = .ok (.iconst 2, 1) := by decide +kernel
theorem dL_isRefused_175 : decode cL_isRefused 175 = .ok (.iload 4, 2) := by decide +kernel
theorem dL_isRefused_177 : decode cL_isRefused 177 = .ok (.ifCond .eq 12, 3) := by decide +kernel
theorem dL_isRefused_180 : decode cL_isRefused 180 = .ok (.iconst (-1), 1) := by decide +kernel
theorem dL_isRefused_181 : decode cL_isRefused 181 = .ok (.iload_n 3, 1) := by decide +kernel
theorem dL_isRefused_182 : decode cL_isRefused 182 = .ok (.bipush 30, 2) := by decide +kernel
theorem dL_isRefused_184 : decode cL_isRefused 184 = .ok (.irem, 1) := by decide +kernel
theorem dL_isRefused_185 : decode cL_isRefused 185 = .ok (.isub, 1) := by decide +kernel
theorem dL_isRefused_186 : decode cL_isRefused 186 = .ok (.goto 5, 3) := by decide +kernel
theorem dL_isRefused_189 : decode cL_isRefused 189 = .ok (.bipush 8, 2) := by decide +kernel
theorem dL_isRefused_191 : decode cL_isRefused 191 = .ok (.iconst 0, 1) := by decide +kernel
theorem dL_isRefused_192 : decode cL_isRefused 192 = .ok (.iconst 0, 1) := by decide +kernel
theorem dL_isRefused_193 : decode cL_isRefused 193 = .ok (.iconst 0, 1) := by decide +kernel
theorem dL_isRefused_194 : decode cL_isRefused 194 = .ok (.invokestatic 133, 3) := by decide +kernel
theorem dL_isRefused_197 : decode cL_isRefused 197 = .ok (.sipush (-1242), 3) := by decide +kernel
theorem dL_isRefused_200 : decode cL_isRefused 200 = .ok (.if_icmp .ne 413, 3) := by decide +kernel
theorem dL_isRefused_203 : decode cL_isRefused 203 = .ok (.aload_n 0, 1) := by decide +kernel
theorem dL_isRefused_204 : decode cL_isRefused 204 = .ok (.iconst 2, 1) := by decide +kernel
theorem dL_isRefused_205 : decode cL_isRefused 205 = .ok (.iconst 0, 1) := by decide +kernel
theorem dL_isRefused_206 : decode cL_isRefused 206 = .ok (.iload 4, 2) := by decide +kernel
theorem dL_isRefused_208 : decode cL_isRefused 208 = .ok (.ifCond .eq 12, 3) := by decide +kernel
theorem dL_isRefused_211 : decode cL_isRefused 211 = .ok (.iconst (-1), 1) := by decide +kernel
theorem dL_isRefused_212 : decode cL_isRefused 212 = .ok (.iload_n 3, 1) := by decide +kernel
theorem dL_isRefused_213 : decode cL_isRefused 213 = .ok (.bipush 30, 2) := by decide +kernel
theorem dL_isRefused_215 : decode cL_isRefused 215 = .ok (.irem, 1) := by decide +kernel
theorem dL_isRefused_216 : decode cL_isRefused 216 = .ok (.isub, 1) := by decide +kernel
theorem dL_isRefused_217 : decode cL_isRefused 217 = .ok (.goto 5, 3) := by decide +kernel
theorem dL_isRefused_220 : decode cL_isRefused 220 = .ok (.bipush 6, 2) := by decide +kernel
theorem dL_isRefused_222 : decode cL_isRefused 222 = .ok (.iconst 0, 1) := by decide +kernel
theorem dL_isRefused_223 : decode cL_isRefused 223 = .ok (.iconst 0, 1) := by decide +kernel
theorem dL_isRefused_224 : decode cL_isRefused 224 = .ok (.invokestatic 133, 3) := by decide +kernel
theorem dL_isRefused_227 : decode cL_isRefused 227 = .ok (.sipush (-1242), 3) := by decide +kernel
theorem dL_isRefused_230 : decode cL_isRefused 230 = .ok (.if_icmp .ne 383, 3) := by decide +kernel
theorem dL_isRefused_233 : decode cL_isRefused 233 = .ok (.aload_n 0, 1) := by decide +kernel
theorem dL_isRefused_234 : decode cL_isRefused 234 = .ok (.iconst 2, 1) := by decide +kernel
theorem dL_isRefused_235 : decode cL_isRefused 235 = .ok (.iconst 0, 1) := by decide +kernel
theorem dL_isRefused_236 : decode cL_isRefused 236 = .ok (.iconst 0, 1) := by decide +kernel
theorem dL_isRefused_237 : decode cL_isRefused 237 = .ok (.iload 4, 2) := by decide +kernel
theorem dL_isRefused_239 : decode cL_isRefused 239 = .ok (.ifCond .eq 14, 3) := by decide +kernel
theorem dL_isRefused_242 : decode cL_isRefused 242 = .ok (.sipush (-1001), 3) := by decide +kernel
theorem dL_isRefused_245 : decode cL_isRefused 245 = .ok (.iload_n 3, 1) := by decide +kernel
theorem dL_isRefused_246 : decode cL_isRefused 246 = .ok (.bipush 30, 2) := by decide +kernel
theorem dL_isRefused_248 : decode cL_isRefused 248 = .ok (.irem, 1) := by decide +kernel
theorem dL_isRefused_249 : decode cL_isRefused 249 = .ok (.isub, 1) := by decide +kernel
theorem dL_isRefused_250 : decode cL_isRefused 250 = .ok (.goto 6, 3) := by decide +kernel
theorem dL_isRefused_253 : decode cL_isRefused 253 = .ok (.sipush 1001, 3) := by decide +kernel
theorem dL_isRefused_256 : decode cL_isRefused 256 = .ok (.iconst 0, 1) := by decide +kernel
theorem dL_isRefused_257 : decode cL_isRefused 257 = .ok (.invokestatic 133, 3) := by decide +kernel
theorem dL_isRefused_260 : decode cL_isRefused 260 = .ok (.sipush (-1242), 3) := by decide +kernel
theorem dL_isRefused_263 : decode cL_isRefused 263 = .ok (.if_icmp .ne 350, 3) := by decide +kernel
theorem dL_isRefused_266 : decode cL_isRefused 266 = .ok (.aload_n 0, 1) := by decide +kernel
theorem dL_isRefused_267 : decode cL_isRefused 267 = .ok (.iconst 2, 1) := by decide +kernel
theorem dL_isRefused_268 : decode cL_isRefused 268 = .ok (.iconst 0, 1) := by decide +kernel
theorem dL_isRefused_269 : decode cL_isRefused 269 = .ok (.iconst 0, 1) := by decide +kernel
theorem dL_isRefused_270 : decode cL_isRefused 270 = .ok (.iconst 0, 1) := by decide +kernel
theorem dL_isRefused_271 : decode cL_isRefused 271 = .ok (.iload 4, 2) := by decide +kernel
theorem dL_isRefused_273 : decode cL_isRefused 273 = .ok (.ifCond .eq 12, 3) := by decide +kernel
theorem dL_isRefused_276 : decode cL_isRefused 276 = .ok (.iconst (-1), 1) := by decide +kernel
theorem dL_isRefused_277 : decode cL_isRefused 277 = .ok (.iload_n 3, 1) := by decide +kernel
theorem dL_isRefused_278 : decode cL_isRefused 278 = .ok (.bipush 30, 2) := by decide +kernel
theorem dL_isRefused_280 : decode cL_isRefused 280 = .ok (.irem, 1) := by decide +kernel
theorem dL_isRefused_281 : decode cL_isRefused 281 = .ok (.isub, 1) := by decide +kernel
theorem dL_isRefused_282 : decode cL_isRefused 282 = .ok (.goto 14, 3) := by decide +kernel
theorem dL_isRefused_285 : decode cL_isRefused 285 = .ok (.aload_n 0, 1) := by decide +kernel
theorem dL_isRefused_286 : decode cL_isRefused 286 = .ok (.invokevirtual 103, 3) := by decide +kernel
theorem dL_isRefused_289 : decode cL_isRefused 289 = .ok (.iconst 1, 1) := by decide +kernel
theorem dL_isRefused_290 : decode cL_isRefused 290 = .ok (.iadd, 1) := by decide +kernel
theorem dL_isRefused_291 : decode cL_isRefused 291 = .ok (.iload_n 3, 1) := by decide +kernel
theorem dL_isRefused_292 : decode cL_isRefused 292 = .ok (.bipush 30, 2) := by decide +kernel
theorem dL_isRefused_294 : decode cL_isRefused 294 = .ok (.irem, 1) := by decide +kernel
theorem dL_isRefused_295 : decode cL_isRefused 295 = .ok (.iadd, 1) := by decide +kernel
theorem dL_isRefused_296 : decode cL_isRefused 296 = .ok (.invokestatic 133, 3) := by decide +kernel
theorem dL_isRefused_299 : decode cL_isRefused 299 = .ok (.sipush (-1242), 3) := by decide +kernel
theorem dL_isRefused_302 : decode cL_isRefused 302 = .ok (.if_icmp .ne 311, 3) := by decide +kernel
theorem dL_isRefused_305 : decode cL_isRefused 305 = .ok (.aload_n 0, 1) := by decide +kernel
theorem dL_isRefused_306 : decode cL_isRefused 306 = .ok (.iconst 4, 1) := by decide +kernel
theorem dL_isRefused_307 : decode cL_isRefused 307 = .ok (.iload 5, 2) := by decide +kernel
theorem dL_isRefused_309 : decode cL_isRefused 309 = .ok (.iload 8, 2) := by decide +kernel
theorem dL_isRefused_311 : decode cL_isRefused 311 = .ok (.iconst 0, 1) := by decide +kernel
theorem dL_isRefused_312 : decode cL_isRefused 312 = .ok (.iconst 0, 1) := by decide +kernel
theorem dL_isRefused_313 : decode cL_isRefused 313 = .ok (.invokestatic 133, 3) := by decide +kernel
theorem dL_isRefused_316 : decode cL_isRefused 316 = .ok (.sipush (-1241), 3) := by decide +kernel
theorem dL_isRefused_319 : decode cL_isRefused 319 = .ok (.if_icmp .ne 294, 3) := by decide +kernel
theorem dL_isRefused_322 : decode cL_isRefused 322 = .ok (.aload_n 0, 1) := by decide +kernel
theorem dL_isRefused_323 : decode cL_isRefused 323 = .ok (.iconst 5, 1) := by decide +kernel
theorem dL_isRefused_324 : decode cL_isRefused 324 = .ok (.iload 5, 2) := by decide +kernel
theorem dL_isRefused_326 : decode cL_isRefused 326 = .ok (.iconst 0, 1) := by decide +kernel
theorem dL_isRefused_327 : decode cL_isRefused 327 = .ok (.iconst (-1), 1) := by decide +kernel
theorem dL_isRefused_328 : decode cL_isRefused 328 = .ok (.iconst 0, 1) := by decide +kernel
theorem dL_isRefused_329 : decode cL_isRefused 329 = .ok (.invokestatic 133, 3) := by decide +kernel
theorem dL_isRefused_332 : decode cL_isRefused 332 = .ok (.sipush (-1241), 3) := by decide +kernel
theorem dL_isRefused_335 : decode cL_isRefused 335 = .ok (.if_icmp .ne 278, 3) := by decide +kernel
theorem dL_isRefused_338 : decode cL_isRefused 338 = .ok (.aload_n 0, 1) := by decide +kernel
theorem dL_isRefused_339 : decode cL_isRefused 339 = .ok (.bipush 6, 2) := by decide +kernel
theorem dL_isRefused_341 : decode cL_isRefused 341 = .ok (.iload 6, 2) := by decide +kernel
theorem dL_isRefused_343 : decode cL_isRefused 343 = .ok (.iconst 0, 1) := by decide +kernel
theorem dL_isRefused_344 : decode cL_isRefused 344 = .ok (.iconst 0, 1) := by decide +kernel
theorem dL_isRefused_345 : decode cL_isRefused 345 = .ok (.iconst 0, 1) := by decide +kernel
theorem dL_isRefused_346 : decode cL_isRefused 346 = .ok (.invokestatic 133, 3) := by decide +kernel
theorem dL_isRefused_349 : decode cL_isRefused 349 = .ok (.sipush (-1241), 3) := by decide +kernel
theorem dL_isRefused_352 : decode cL_isRefused 352 = .ok (.if_icmp .ne 261, 3) := by decide +kernel
theorem dL_isRefused_355 : decode cL_isRefused 355 = .ok (.aload_n 0, 1) := by decide +kernel
theorem dL_isRefused_356 : decode cL_isRefused 356 = .ok (.bipush 7, 2) := by decide +kernel
theorem dL_isRefused_358 : decode cL_isRefused 358 = .ok (.iload 6, 2) := by decide +kernel
theorem dL_isRefused_360 : decode cL_isRefused 360 = .ok (.iconst 0, 1) := by decide +kernel
theorem dL_isRefused_361 : decode cL_isRefused 361 = .ok (.iconst 0, 1) := by decide +kernel
theorem dL_isRefused_362 : decode cL_isRefused 362 = .ok (.iconst 0, 1) := by decide +kernel
theorem dL_isRefused_363 : decode cL_isRefused 363 = .ok (.invokestatic 133, 3) := by decide +kernel
theorem dL_isRefused_366 : decode cL_isRefused 366 = .ok (.sipush (-1241), 3) := by decide +kernel
theorem dL_isRefused_369 : decode cL_isRefused 369 = .ok (.if_icmp .ne 244, 3) := by decide +kernel
theorem dL_isRefused_372 : decode cL_isRefused 372 = .ok (.aload_n 0, 1) := by decide +kernel
theorem dL_isRefused_373 : decode cL_isRefused 373 = .ok (.bipush 8, 2) := by decide +kernel
theorem dL_isRefused_375 : decode cL_isRefused 375 = .ok (.iload 7, 2) := by decide +kernel
theorem dL_isRefused_377 : decode cL_isRefused 377 = .ok (.iconst 0, 1) := by decide +kernel
theorem dL_isRefused_378 : decode cL_isRefused 378 = .ok (.iconst 0, 1) := by decide +kernel
theorem dL_isRefused_379 : decode cL_isRefused 379 = .ok (.iconst 0, 1) := by decide +kernel
theorem dL_isRefused_380 : decode cL_isRefused 380 = .ok (.invokestatic 133, 3) := by decide +kernel
theorem dL_isRefused_383 : decode cL_isRefused 383 = .ok (.sipush (-1241), 3) := by decide +kernel
theorem dL_isRefused_386 : decode cL_isRefused 386 = .ok (.if_icmp .ne 227, 3) := by decide +kernel
theorem dL_isRefused_389 : decode cL_isRefused 389 = .ok (.aload_n 0, 1) := by decide +kernel
theorem dL_isRefused_390 : decode cL_isRefused 390 = .ok (.iload 8, 2) := by decide +kernel
theorem dL_isRefused_392 : decode cL_isRefused 392 = .ok (.iload_n 3, 1) := by decide +kernel
theorem dL_isRefused_393 : decode cL_isRefused 393 = .ok (.bipush 30, 2) := by decide +kernel
theorem dL_isRefused_395 : decode cL_isRefused 395 = .ok (.irem, 1) := by decide +kernel
theorem dL_isRefused_396 : decode cL_isRefused 396 = .ok (.isub, 1) := by decide +kernel
theorem dL_isRefused_397 : decode cL_isRefused 397 = .ok (.iload 8, 2) := by decide +kernel
theorem dL_isRefused_399 : decode cL_isRefused 399 = .ok (.iconst 1, 1) := by decide +kernel
theorem dL_isRefused_400 : decode cL_isRefused 400 = .ok (.iadd, 1) := by decide +kernel
theorem dL_isRefused_401 : decode cL_isRefused 401 = .ok (.invokestatic 164, 3) := by decide +kernel
theorem dL_isRefused_404 : decode cL_isRefused 404 = .ok (.sipush (-1242), 3) := by decide +kernel
theorem dL_isRefused_407 : decode cL_isRefused 407 = .ok (.if_icmp .ne 206, 3) := by decide +kernel
theorem dL_isRefused_410 : decode cL_isRefused 410 = .ok (.aload_n 0, 1) := by decide +kernel
theorem dL_isRefused_411 : decode cL_isRefused 411 = .ok (.iload 8, 2) := by decide +kernel
theorem dL_isRefused_413 : decode cL_isRefused 413 = .ok (.iconst 1, 1) := by decide +kernel
theorem dL_isRefused_414 : decode cL_isRefused 414 = .ok (.iadd, 1) := by decide +kernel
theorem dL_isRefused_415 : decode cL_isRefused 415 = .ok (.iload 8, 2) := by decide +kernel
theorem dL_isRefused_417 : decode cL_isRefused 417 = .ok (.iconst 1, 1) := by decide +kernel
theorem dL_isRefused_418 : decode cL_isRefused 418 = .ok (.iadd, 1) := by decide +kernel
theorem dL_isRefused_419 : decode cL_isRefused 419 = .ok (.invokestatic 164, 3) := by decide +kernel
theorem dL_isRefused_422 : decode cL_isRefused 422 = .ok (.sipush (-1242), 3) := by decide +kernel
theorem dL_isRefused_425 : decode cL_isRefused 425 = .ok (.if_icmp .ne 188, 3) := by decide +kernel
theorem dL_isRefused_428 : decode cL_isRefused 428 = .ok (.aload_n 0, 1) := by decide +kernel
theorem dL_isRefused_429 : decode cL_isRefused 429 = .ok (.iload 8, 2) := by decide +kernel
theorem dL_isRefused_431 : decode cL_isRefused 431 = .ok (.iconst 2, 1) := by decide +kernel
theorem dL_isRefused_432 : decode cL_isRefused 432 = .ok (.iadd, 1) := by decide +kernel
theorem dL_isRefused_433 : decode cL_isRefused 433 = .ok (.bipush 126, 2) := by decide +kernel
theorem dL_isRefused_435 : decode cL_isRefused 435 = .ok (.iload_n 3, 1) := by decide +kernel
theorem dL_isRefused_436 : decode cL_isRefused 436 = .ok (.bipush 30, 2) := by decide +kernel
theorem dL_isRefused_438 : decode cL_isRefused 438 = .ok (.irem, 1) := by decide +kernel
theorem dL_isRefused_439 : decode cL_isRefused 439 = .ok (.iadd, 1) := by decide +kernel
theorem dL_isRefused_440 : decode cL_isRefused 440 = .ok (.invokestatic 164, 3) := by decide +kernel
theorem dL_isRefused_443 : decode cL_isRefused 443 = .ok (.sipush (-1242), 3) := by decide +kernel
theorem dL_isRefused_446 : decode cL_isRefused 446 = .ok (.if_icmp .ne 167, 3) := by decide +kernel
theorem dL_isRefused_449 : decode cL_isRefused 449 = .ok (.aload_n 0, 1) := by decide +kernel
theorem dL_isRefused_450 : decode cL_isRefused 450 = .ok (.iconst 0, 1) := by decide +kernel
theorem dL_isRefused_451 : decode cL_isRefused 451 = .ok (.iload 4, 2) := by decide +kernel
theorem dL_isRefused_453 : decode cL_isRefused 453 = .ok (.ifCond .eq 13, 3) := by decide +kernel
theorem dL_isRefused_456 : decode cL_isRefused 456 = .ok (.iload 8, 2) := by decide +kernel
theorem dL_isRefused_458 : decode cL_isRefused 458 = .ok (.iload_n 3, 1) := by decide +kernel
theorem dL_isRefused_459 : decode cL_isRefused 459 = .ok (.bipush 30, 2) := by decide +kernel
theorem dL_isRefused_461 : decode cL_isRefused 461 = .ok (.irem, 1) := by decide +kernel
theorem dL_isRefused_462 : decode cL_isRefused 462 = .ok (.isub, 1) := by decide +kernel
theorem dL_isRefused_463 : decode cL_isRefused 463 = .ok (.goto 10, 3) := by decide +kernel
theorem dL_isRefused_466 : decode cL_isRefused 466 = .ok (.bipush 126, 2) := by decide +kernel
theorem dL_isRefused_468 : decode cL_isRefused 468 = .ok (.iload_n 3, 1) := by decide +kernel
theorem dL_isRefused_469 : decode cL_isRefused 469 = .ok (.bipush 30, 2) := by decide +kernel
theorem dL_isRefused_471 : decode cL_isRefused 471 = .ok (.irem, 1) := by decide +kernel
theorem dL_isRefused_472 : decode cL_isRefused 472 = .ok (.iadd, 1) := by decide +kernel
theorem dL_isRefused_473 : decode cL_isRefused 473 = .ok (.iconst 0, 1) := by decide +kernel
theorem dL_isRefused_474 : decode cL_isRefused 474 = .ok (.invokestatic 168, 3) := by decide +kernel
theorem dL_isRefused_477 : decode cL_isRefused 477 = .ok (.sipush (-1242), 3) := by decide +kernel
theorem dL_isRefused_480 : decode cL_isRefused 480 = .ok (.if_icmp .ne 133, 3) := by decide +kernel
theorem dL_isRefused_483 : decode cL_isRefused 483 = .ok (.aload_n 0, 1) := by decide +kernel
theorem dL_isRefused_484 : decode cL_isRefused 484 = .ok (.iconst 1, 1) := by decide +kernel
theorem dL_isRefused_485 : decode cL_isRefused 485 = .ok (.iload 4, 2) := by decide +kernel
theorem dL_isRefused_487 : decode cL_isRefused 487 = .ok (.ifCond .eq 12, 3) := by decide +kernel
theorem dL_isRefused_490 : decode cL_isRefused 490 = .ok (.iconst (-1), 1) := by decide +kernel
theorem dL_isRefused_491 : decode cL_isRefused 491 = .ok (.iload_n 3, 1) := by decide +kernel
theorem dL_isRefused_492 : decode cL_isRefused 492 = .ok (.bipush 30, 2) := by decide +kernel
theorem dL_isRefused_494 : decode cL_isRefused 494 = .ok (.irem, 1) := by decide +kernel
theorem dL_isRefused_495 : decode cL_isRefused 495 = .ok (.isub, 1) := by decide +kernel
theorem dL_isRefused_496 : decode cL_isRefused 496 = .ok (.goto 12, 3) := by decide +kernel
theorem dL_isRefused_499 : decode cL_isRefused 499 = .ok (.iload 8, 2) := by decide +kernel
theorem dL_isRefused_501 : decode cL_isRefused 501 = .ok (.iconst 1, 1) := by decide +kernel
theorem dL_isRefused_502 : decode cL_isRefused 502 = .ok (.iadd, 1) := by decide +kernel
theorem dL_isRefused_503 : decode cL_isRefused 503 = .ok (.iload_n 3, 1) := by decide +kernel
theorem dL_isRefused_504 : decode cL_isRefused 504 = .ok (.bipush 30, 2) := by decide +kernel
theorem dL_isRefused_506 : decode cL_isRefused 506 = .ok (.irem, 1) := by decide +kernel
theorem dL_isRefused_507 : decode cL_isRefused 507 = .ok (.iadd, 1) := by decide +kernel
theorem dL_isRefused_508 : decode cL_isRefused 508 = .ok (.iconst 0, 1) := by decide +kernel
theorem dL_isRefused_509 : decode cL_isRefused 509 = .ok (.invokestatic 168, 3) := by decide +kernel
theorem dL_isRefused_512 : decode cL_isRefused 512 = .ok (.sipush (-1242), 3) := by decide +kernel
theorem dL_isRefused_515 : decode cL_isRefused 515 = .ok (.if_icmp .ne 98, 3) := by decide +kernel
theorem dL_isRefused_518 : decode cL_isRefused 518 = .ok (.aload_n 0, 1) := by decide +kernel
theorem dL_isRefused_519 : decode cL_isRefused 519 = .ok (.iconst 2, 1) := by decide +kernel
theorem dL_isRefused_520 : decode cL_isRefused 520 = .ok (.iload 5, 2) := by decide +kernel
theorem dL_isRefused_522 : decode cL_isRefused 522 = .ok (.iconst 0, 1) := by decide +kernel
theorem dL_isRefused_523 : decode cL_isRefused 523 = .ok (.invokestatic 168, 3) := by decide +kernel
theorem dL_isRefused_526 : decode cL_isRefused 526 = .ok (.sipush (-1241), 3) := by decide +kernel
theorem dL_isRefused_529 : decode cL_isRefused 529 = .ok (.if_icmp .ne 84, 3) := by decide +kernel
theorem dL_isRefused_532 : decode cL_isRefused 532 = .ok (.aload_n 0, 1) := by decide +kernel
theorem dL_isRefused_533 : decode cL_isRefused 533 = .ok (.iconst 3, 1) := by decide +kernel
theorem dL_isRefused_534 : decode cL_isRefused 534 = .ok (.iload 5, 2) := by decide +kernel
theorem dL_isRefused_536 : decode cL_isRefused 536 = .ok (.iload 5, 2) := by decide +kernel
theorem dL_isRefused_538 : decode cL_isRefused 538 = .ok (.invokestatic 168, 3) := by decide +kernel
theorem dL_isRefused_541 : decode cL_isRefused 541 = .ok (.sipush (-1241), 3) := by decide +kernel
theorem dL_isRefused_544 : decode cL_isRefused 544 = .ok (.if_icmp .ne 69, 3) := by decide +kernel
theorem dL_isRefused_547 : decode cL_isRefused 547 = .ok (.aload_n 0, 1) := by decide +kernel
theorem dL_isRefused_548 : decode cL_isRefused 548 = .ok (.iload 4, 2) := by decide +kernel
theorem dL_isRefused_550 : decode cL_isRefused 550 = .ok (.iload 4, 2) := by decide +kernel
theorem dL_isRefused_552 : decode cL_isRefused 552 = .ok (.ifCond .eq 12, 3) := by decide +kernel
theorem dL_isRefused_555 : decode cL_isRefused 555 = .ok (.iconst (-1), 1) := by decide +kernel
theorem dL_isRefused_556 : decode cL_isRefused 556 = .ok (.iload_n 3, 1) := by decide +kernel
theorem dL_isRefused_557 : decode cL_isRefused 557 = .ok (.bipush 30, 2) := by decide +kernel
theorem dL_isRefused_559 : decode cL_isRefused 559 = .ok (.irem, 1) := by decide +kernel
theorem dL_isRefused_560 : decode cL_isRefused 560 = .ok (.isub, 1) := by decide +kernel
theorem dL_isRefused_561 : decode cL_isRefused 561 = .ok (.goto 9, 3) := by decide +kernel
theorem dL_isRefused_564 : decode cL_isRefused 564 = .ok (.aload_n 0, 1) := by decide +kernel
theorem dL_isRefused_565 : decode cL_isRefused 565 = .ok (.invokevirtual 103, 3) := by decide +kernel
theorem dL_isRefused_568 : decode cL_isRefused 568 = .ok (.iconst 1, 1) := by decide +kernel
theorem dL_isRefused_569 : decode cL_isRefused 569 = .ok (.iadd, 1) := by decide +kernel
theorem dL_isRefused_570 : decode cL_isRefused 570 = .ok (.aload_n 0, 1) := by decide +kernel
theorem dL_isRefused_571 : decode cL_isRefused 571 = .ok (.invokevirtual 103, 3) := by decide +kernel
theorem dL_isRefused_574 : decode cL_isRefused 574 = .ok (.invokestatic 150, 3) := by decide +kernel
theorem dL_isRefused_577 : decode cL_isRefused 577 = .ok (.ldc2_w 62, 3) := by decide +kernel
theorem dL_isRefused_580 : decode cL_isRefused 580 = .ok (.lcmp, 1) := by decide +kernel
theorem dL_isRefused_581 : decode cL_isRefused 581 = .ok (.ifCond .ne 32, 3) := by decide +kernel
theorem dL_isRefused_584 : decode cL_isRefused 584 = .ok (.aload_n 0, 1) := by decide +kernel
theorem dL_isRefused_585 : decode cL_isRefused 585 = .ok (.iload 4, 2) := by decide +kernel
theorem dL_isRefused_587 : decode cL_isRefused 587 = .ok (.iconst 0, 1) := by decide +kernel
theorem dL_isRefused_588 : decode cL_isRefused 588 = .ok (.aload_n 0, 1) := by decide +kernel
theorem dL_isRefused_589 : decode cL_isRefused 589 = .ok (.invokevirtual 103, 3) := by decide +kernel
theorem dL_isRefused_592 : decode cL_isRefused 592 = .ok (.iconst 1, 1) := by decide +kernel
theorem dL_isRefused_593 : decode cL_isRefused 593 = .ok (.iadd, 1) := by decide +kernel
theorem dL_isRefused_594 : decode cL_isRefused 594 = .ok (.iload_n 3, 1) := by decide +kernel
theorem dL_isRefused_595 : decode cL_isRefused 595 = .ok (.bipush 30, 2) := by decide +kernel
theorem dL_isRefused_597 : decode cL_isRefused 597 = .ok (.irem, 1) := by decide +kernel
theorem dL_isRefused_598 : decode cL_isRefused 598 = .ok (.iadd, 1) := by decide +kernel
theorem dL_isRefused_599 : decode cL_isRefused 599 = .ok (.invokestatic 150, 3) := by decide +kernel
theorem dL_isRefused_602 : decode cL_isRefused 602 = .ok (.ldc2_w 62, 3) := by decide +kernel
theorem dL_isRefused_605 : decode cL_isRefused 605 = .ok (.lcmp, 1) := by decide +kernel
theorem dL_isRefused_606 : decode cL_isRefused 606 = .ok (.ifCond .ne 7, 3) := by decide +kernel
theorem dL_isRefused_609 : decode cL_isRefused 609 = .ok (.iconst 1, 1) := by decide +kernel
theorem dL_isRefused_610 : decode cL_isRefused 610 = .ok (.goto 4, 3) := by decide +kernel
theorem dL_isRefused_613 : decode cL_isRefused 613 = .ok (.iconst 0, 1) := by decide +kernel
theorem dL_isRefused_614 : decode cL_isRefused 614 = .ok (.istore 11, 2) := by decide +kernel
theorem dL_isRefused_616 : decode cL_isRefused 616 = .ok (.iconst 4, 1) := by decide +kernel
theorem dL_isRefused_617 : decode cL_isRefused 617 = .ok (.istore 12, 2) := by decide +kernel
theorem dL_isRefused_619 : decode cL_isRefused 619 = .ok (.iload 12, 2) := by decide +kernel
theorem dL_isRefused_621 : decode cL_isRefused 621 = .ok (.bipush 11, 2) := by decide +kernel
theorem dL_isRefused_623 : decode cL_isRefused 623 = .ok (.if_icmp .ge 48, 3) := by decide +kernel
theorem dL_isRefused_626 : decode cL_isRefused 626 = .ok (.iload 11, 2) := by decide +kernel
theorem dL_isRefused_628 : decode cL_isRefused 628 = .ok (.ifCond .eq 43, 3) := by decide +kernel
theorem dL_isRefused_631 : decode cL_isRefused 631 = .ok (.aload_n 0, 1) := by decide +kernel
theorem dL_isRefused_632 : decode cL_isRefused 632 = .ok (.iload 12, 2) := by decide +kernel
theorem dL_isRefused_634 : decode cL_isRefused 634 = .ok (.iload 12, 2) := by decide +kernel
theorem dL_isRefused_636 : decode cL_isRefused 636 = .ok (.bipush 7, 2) := by decide +kernel
theorem dL_isRefused_638 : decode cL_isRefused 638 = .ok (.if_icmp .ge 8, 3) := by decide +kernel
theorem dL_isRefused_641 : decode cL_isRefused 641 = .ok (.iload 6, 2) := by decide +kernel
theorem dL_isRefused_643 : decode cL_isRefused 643 = .ok (.goto 5, 3) := by decide +kernel
theorem dL_isRefused_646 : decode cL_isRefused 646 = .ok (.iload 7, 2) := by decide +kernel
theorem dL_isRefused_648 : decode cL_isRefused 648 = .ok (.iconst 0, 1) := by decide +kernel
theorem dL_isRefused_649 : decode cL_isRefused 649 = .ok (.invokestatic 168, 3) := by decide +kernel
theorem dL_isRefused_652 : decode cL_isRefused 652 = .ok (.sipush (-1241), 3) := by decide +kernel
theorem dL_isRefused_655 : decode cL_isRefused 655 = .ok (.if_icmp .ne 7, 3) := by decide +kernel
theorem dL_isRefused_658 : decode cL_isRefused 658 = .ok (.iconst 1, 1) := by decide +kernel
theorem dL_isRefused_659 : decode cL_isRefused 659 = .ok (.goto 4, 3) := by decide +kernel
theorem dL_isRefused_662 : decode cL_isRefused 662 = .ok (.iconst 0, 1) := by decide +kernel
theorem dL_isRefused_663 : decode cL_isRefused 663 = .ok (.istore 11, 2) := by decide +kernel
theorem dL_isRefused_665 : decode cL_isRefused 665 = .ok (.iinc 12 1, 3) := by decide +kernel
theorem dL_isRefused_668 : decode cL_isRefused 668 = .ok (.goto (-49), 3) := by decide +kernel
theorem dL_isRefused_671 : decode cL_isRefused 671 = .ok (.iconst 0, 1) := by decide +kernel
theorem dL_isRefused_672 : decode cL_isRefused 672 = .ok (.istore 12, 2) := by decide +kernel
theorem dL_isRefused_674 : decode cL_isRefused 674 = .ok (.iload 12, 2) := by decide +kernel
theorem dL_isRefused_676 : decode cL_isRefused 676 = .ok (.aload_n 2, 1) := by decide +kernel
theorem dL_isRefused_677 : decode cL_isRefused 677 = .ok (.iconst 0, 1) := by decide +kernel
theorem dL_isRefused_678 : decode cL_isRefused 678 = .ok (.iaload, 1) := by decide +kernel
theorem dL_isRefused_679 : decode cL_isRefused 679 = .ok (.if_icmp .ge 165, 3) := by decide +kernel
theorem dL_isRefused_682 : decode cL_isRefused 682 = .ok (.iload 11, 2) := by decide +kernel
theorem dL_isRefused_684 : decode cL_isRefused 684 = .ok (.ifCond .eq 160, 3) := by decide +kernel
theorem dL_isRefused_687 : decode cL_isRefused 687 = .ok (.aload_n 0, 1) := by decide +kernel
theorem dL_isRefused_688 : decode cL_isRefused 688 = .ok (.iconst 4, 1) := by decide +kernel
theorem dL_isRefused_689 : decode cL_isRefused 689 = .ok (.iload 12, 2) := by decide +kernel
theorem dL_isRefused_691 : decode cL_isRefused 691 = .ok (.iload 4, 2) := by decide +kernel
theorem dL_isRefused_693 : decode cL_isRefused 693 = .ok (.ifCond .eq 13, 3) := by decide +kernel
theorem dL_isRefused_696 : decode cL_isRefused 696 = .ok (.iload 8, 2) := by decide +kernel
theorem dL_isRefused_698 : decode cL_isRefused 698 = .ok (.iload_n 3, 1) := by decide +kernel
theorem dL_isRefused_699 : decode cL_isRefused 699 = .ok (.bipush 30, 2) := by decide +kernel
theorem dL_isRefused_701 : decode cL_isRefused 701 = .ok (.irem, 1) := by decide +kernel
theorem dL_isRefused_702 : decode cL_isRefused 702 = .ok (.isub, 1) := by decide +kernel
theorem dL_isRefused_703 : decode cL_isRefused 703 = .ok (.goto 10, 3) := by decide +kernel
theorem dL_isRefused_706 : decode cL_isRefused 706 = .ok (.bipush 126, 2) := by decide +kernel
theorem dL_isRefused_708 : decode cL_isRefused 708 = .ok (.iload_n 3, 1) := by decide +kernel
theorem dL_isRefused_709 : decode cL_isRefused 709 = .ok (.bipush 30, 2) := by decide +kernel
theorem dL_isRefused_711 : decode cL_isRefused 711 = .ok (.irem, 1) := by decide +kernel
theorem dL_isRefused_712 : decode cL_isRefused 712 = .ok (.iadd, 1) := by decide +kernel
theorem dL_isRefused_713 : decode cL_isRefused 713 = .ok (.iconst 0, 1) := by decide +kernel
theorem dL_isRefused_714 : decode cL_isRefused 714 = .ok (.iconst 0, 1) := by decide +kernel
theorem dL_isRefused_715 : decode cL_isRefused 715 = .ok (.invokestatic 133, 3) := by decide +kernel
theorem dL_isRefused_718 : decode cL_isRefused 718 = .ok (.sipush (-1242), 3) := by decide +kernel
theorem dL_isRefused_721 : decode cL_isRefused 721 = .ok (.if_icmp .ne 114, 3) := by decide +kernel
theorem dL_isRefused_724 : decode cL_isRefused 724 = .ok (.aload_n 0, 1) := by decide +kernel
theorem dL_isRefused_725 : decode cL_isRefused 725 = .ok (.iconst 5, 1) := by decide +kernel
theorem dL_isRefused_726 : decode cL_isRefused 726 = .ok (.iload 12, 2) := by decide +kernel
theorem dL_isRefused_728 : decode cL_isRefused 728 = .ok (.iload 4, 2) := by decide +kernel
theorem dL_isRefused_730 : decode cL_isRefused 730 = .ok (.ifCond .eq 12, 3) := by decide +kernel
theorem dL_isRefused_733 : decode cL_isRefused 733 = .ok (.iconst 0, 1) := by decide +kernel
theorem dL_isRefused_734 : decode cL_isRefused 734 = .ok (.iload_n 3, 1) := by decide +kernel
theorem dL_isRefused_735 : decode cL_isRefused 735 = .ok (.bipush 30, 2) := by decide +kernel
theorem dL_isRefused_737 : decode cL_isRefused 737 = .ok (.irem, 1) := by decide +kernel
theorem dL_isRefused_738 : decode cL_isRefused 738 = .ok (.isub, 1) := by decide +kernel
theorem dL_isRefused_739 : decode cL_isRefused 739 = .ok (.goto 5, 3) := by decide +kernel
theorem dL_isRefused_742 : decode cL_isRefused 742 = .ok (.bipush 73, 2) := by decide +kernel
theorem dL_isRefused_744 : decode cL_isRefused 744 = .ok (.iconst 5, 1) := by decide +kernel
theorem dL_isRefused_745 : decode cL_isRefused 745 = .ok (.iconst 0, 1) := by decide +kernel
theorem dL_isRefused_746 : decode cL_isRefused 746 = .ok (.invokestatic 133, 3) := by decide +kernel
theorem dL_isRefused_749 : decode cL_isRefused 749 = .ok (.sipush (-1242), 3) := by decide +kernel
theorem dL_isRefused_752 : decode cL_isRefused 752 = .ok (.if_icmp .ne 83, 3) := by decide +kernel
theorem dL_isRefused_755 : decode cL_isRefused 755 = .ok (.aload_n 0, 1) := by decide +kernel
theorem dL_isRefused_756 : decode cL_isRefused 756 = .ok (.iconst 5, 1) := by decide +kernel
theorem dL_isRefused_757 : decode cL_isRefused 757 = .ok (.iload 12, 2) := by decide +kernel
theorem dL_isRefused_759 : decode cL_isRefused 759 = .ok (.iconst 5, 1) := by decide +kernel
theorem dL_isRefused_760 : decode cL_isRefused 760 = .ok (.iload 4, 2) := by decide +kernel
theorem dL_isRefused_762 : decode cL_isRefused 762 = .ok (.ifCond .eq 12, 3) := by decide +kernel
theorem dL_isRefused_765 : decode cL_isRefused 765 = .ok (.iconst (-1), 1) := by decide +kernel
theorem dL_isRefused_766 : decode cL_isRefused 766 = .ok (.iload_n 3, 1) := by decide +kernel
theorem dL_isRefused_767 : decode cL_isRefused 767 = .ok (.bipush 30, 2) := by decide +kernel
theorem dL_isRefused_769 : decode cL_isRefused 769 = .ok (.irem, 1) := by decide +kernel
theorem dL_isRefused_770 : decode cL_isRefused 770 = .ok (.isub, 1) := by decide +kernel
theorem dL_isRefused_771 : decode cL_isRefused 771 = .ok (.goto 5, 3) := by decide +kernel
theorem dL_isRefused_774 : decode cL_isRefused 774 = .ok (.bipush 73, 2) := by decide +kernel
theorem dL_isRefused_776 : decode cL_isRefused 776 = .ok (.iconst 0, 1) := by decide +kernel
theorem dL_isRefused_777 : decode cL_isRefused 777 = .ok (.invokestatic 133, 3) := by decide +kernel
theorem dL_isRefused_780 : decode cL_isRefused 780 = .ok (.sipush (-1242), 3) := by decide +kernel
theorem dL_isRefused_783 : decode cL_isRefused 783 = .ok (.if_icmp .ne 52, 3) := by decide +kernel
theorem dL_isRefused_786 : decode cL_isRefused 786 = .ok (.aload_n 2, 1) := by decide +kernel
theorem dL_isRefused_787 : decode cL_isRefused 787 = .ok (.iconst 1, 1) := by decide +kernel
theorem dL_isRefused_788 : decode cL_isRefused 788 = .ok (.iaload, 1) := by decide +kernel
theorem dL_isRefused_789 : decode cL_isRefused 789 = .ok (.iconst 4, 1) := by decide +kernel
theorem dL_isRefused_790 : decode cL_isRefused 790 = .ok (.if_icmp .ge 10, 3) := by decide +kernel
theorem dL_isRefused_793 : decode cL_isRefused 793 = .ok (.aload_n 0, 1) := by decide +kernel
theorem dL_isRefused_794 : decode cL_isRefused 794 = .ok (.invokevirtual 118, 3) := by decide +kernel
theorem dL_isRefused_797 : decode cL_isRefused 797 = .ok (.ifCond .lt 19, 3) := by decide +kernel
theorem dL_isRefused_800 : decode cL_isRefused 800 = .ok (.aload_n 0, 1) := by decide +kernel
theorem dL_isRefused_801 : decode cL_isRefused 801 = .ok (.iconst 5, 1) := by decide +kernel
theorem dL_isRefused_802 : decode cL_isRefused 802 = .ok (.iload 12, 2) := by decide +kernel
theorem dL_isRefused_804 : decode cL_isRefused 804 = .ok (.iconst 5, 1) := by decide +kernel
theorem dL_isRefused_805 : decode cL_isRefused 805 = .ok (.iconst 5, 1) := by decide +kernel
theorem dL_isRefused_806 : decode cL_isRefused 806 = .ok (.iconst 0, 1) := by decide +kernel
theorem dL_isRefused_807 : decode cL_isRefused 807 = .ok (.invokestatic 133, 3) := by decide +kernel
theorem dL_isRefused_810 : decode cL_isRefused 810 = .ok (.sipush (-1243), 3) := by decide +kernel
theorem dL_isRefused_813 : decode cL_isRefused 813 = .ok (.if_icmp .ne 22, 3) := by decide +kernel
theorem dL_isRefused_816 : decode cL_isRefused 816 = .ok (.aload_n 0, 1) := by decide +kernel
theorem dL_isRefused_817 : decode cL_isRefused 817 = .ok (.iconst 3, 1) := by decide +kernel
theorem dL_isRefused_818 : decode cL_isRefused 818 = .ok (.iload 12, 2) := by decide +kernel
theorem dL_isRefused_820 : decode cL_isRefused 820 = .ok (.iload 5, 2) := by decide +kernel
theorem dL_isRefused_822 : decode cL_isRefused 822 = .ok (.invokestatic 168, 3) := by decide +kernel
theorem dL_isRefused_825 : decode cL_isRefused 825 = .ok (.sipush (-1241), 3) := by decide +kernel
theorem dL_isRefused_828 : decode cL_isRefused 828 = .ok (.if_icmp .ne 7, 3) := by decide +kernel
theorem dL_isRefused_831 : decode cL_isRefused 831 = .ok (.iconst 1, 1) := by decide +kernel
theorem dL_isRefused_832 : decode cL_isRefused 832 = .ok (.goto 4, 3) := by decide +kernel
theorem dL_isRefused_835 : decode cL_isRefused 835 = .ok (.iconst 0, 1) := by decide +kernel
theorem dL_isRefused_836 : decode cL_isRefused 836 = .ok (.istore 11, 2) := by decide +kernel
theorem dL_isRefused_838 : decode cL_isRefused 838 = .ok (.iinc 12 1, 3) := by decide +kernel
theorem dL_isRefused_841 : decode cL_isRefused 841 = .ok (.goto (-167), 3) := by decide +kernel
theorem dL_isRefused_844 : decode cL_isRefused 844 = .ok (.iconst 0, 1) := by decide +kernel
theorem dL_isRefused_845 : decode cL_isRefused 845 = .ok (.istore 12, 2) := by decide +kernel
theorem dL_isRefused_847 : decode cL_isRefused 847 = .ok (.iload 12, 2) := by decide +kernel
theorem dL_isRefused_849 : decode cL_isRefused 849 = .ok (.aload_n 2, 1) := by decide +kernel
theorem dL_isRefused_850 : decode cL_isRefused 850 = .ok (.iconst 1, 1) := by decide +kernel
theorem dL_isRefused_851 : decode cL_isRefused 851 = .ok (.iaload, 1) := by decide +kernel
theorem dL_isRefused_852 : decode cL_isRefused 852 = .ok (.if_icmp .ge 168, 3) := by decide +kernel
theorem dL_isRefused_855 : decode cL_isRefused 855 = .ok (.iload 11, 2) := by decide +kernel
theorem dL_isRefused_857 : decode cL_isRefused 857 = .ok (.ifCond .eq 163, 3) := by decide +kernel
theorem dL_isRefused_860 : decode cL_isRefused 860 = .ok (.aload_n 0, 1) := by decide +kernel
theorem dL_isRefused_861 : decode cL_isRefused 861 = .ok (.bipush 7, 2) := by decide +kernel
theorem dL_isRefused_863 : decode cL_isRefused 863 = .ok (.iload 12, 2) := by decide +kernel
theorem dL_isRefused_865 : decode cL_isRefused 865 = .ok (.iload 4, 2) := by decide +kernel
theorem dL_isRefused_867 : decode cL_isRefused 867 = .ok (.ifCond .eq 15, 3) := by decide +kernel
theorem dL_isRefused_870 : decode cL_isRefused 870 = .ok (.aload_n 0, 1) := by decide +kernel
theorem dL_isRefused_871 : decode cL_isRefused 871 = .ok (.invokevirtual 103, 3) := by decide +kernel
theorem dL_isRefused_874 : decode cL_isRefused 874 = .ok (.iload_n 3, 1) := by decide +kernel
theorem dL_isRefused_875 : decode cL_isRefused 875 = .ok (.bipush 30, 2) := by decide +kernel
theorem dL_isRefused_877 : decode cL_isRefused 877 = .ok (.irem, 1) := by decide +kernel
theorem dL_isRefused_878 : decode cL_isRefused 878 = .ok (.isub, 1) := by decide +kernel
theorem dL_isRefused_879 : decode cL_isRefused 879 = .ok (.goto 6, 3) := by decide +kernel
theorem dL_isRefused_882 : decode cL_isRefused 882 = .ok (.sipush 1001, 3) := by decide +kernel
theorem dL_isRefused_885 : decode cL_isRefused 885 = .ok (.sipush 1000, 3) := by decide +kernel
theorem dL_isRefused_888 : decode cL_isRefused 888 = .ok (.iconst 0, 1) := by decide +kernel
theorem dL_isRefused_889 : decode cL_isRefused 889 = .ok (.invokestatic 133, 3) := by decide +kernel
theorem dL_isRefused_892 : decode cL_isRefused 892 = .ok (.sipush (-1242), 3) := by decide +kernel
theorem dL_isRefused_895 : decode cL_isRefused 895 = .ok (.if_icmp .ne 116, 3) := by decide +kernel
theorem dL_isRefused_898 : decode cL_isRefused 898 = .ok (.aload_n 0, 1) := by decide +kernel
theorem dL_isRefused_899 : decode cL_isRefused 899 = .ok (.bipush 7, 2) := by decide +kernel
theorem dL_isRefused_901 : decode cL_isRefused 901 = .ok (.iload 12, 2) := by decide +kernel
theorem dL_isRefused_903 : decode cL_isRefused 903 = .ok (.aload_n 0, 1) := by decide +kernel
theorem dL_isRefused_904 : decode cL_isRefused 904 = .ok (.invokevirtual 103, 3) := by decide +kernel
theorem dL_isRefused_907 : decode cL_isRefused 907 = .ok (.iconst 2, 1) := by decide +kernel
theorem dL_isRefused_908 : decode cL_isRefused 908 = .ok (.iadd, 1) := by decide +kernel
theorem dL_isRefused_909 : decode cL_isRefused 909 = .ok (.iload 4, 2) := by decide +kernel
theorem dL_isRefused_911 : decode cL_isRefused 911 = .ok (.ifCond .eq 17, 3) := by decide +kernel
theorem dL_isRefused_914 : decode cL_isRefused 914 = .ok (.aload_n 0, 1) := by decide +kernel
theorem dL_isRefused_915 : decode cL_isRefused 915 = .ok (.invokevirtual 103, 3) := by decide +kernel
theorem dL_isRefused_918 : decode cL_isRefused 918 = .ok (.iconst 1, 1) := by decide +kernel
theorem dL_isRefused_919 : decode cL_isRefused 919 = .ok (.iadd, 1) := by decide +kernel
theorem dL_isRefused_920 : decode cL_isRefused 920 = .ok (.iload_n 3, 1) := by decide +kernel
theorem dL_isRefused_921 : decode cL_isRefused 921 = .ok (.bipush 30, 2) := by decide +kernel
theorem dL_isRefused_923 : decode cL_isRefused 923 = .ok (.irem, 1) := by decide +kernel
theorem dL_isRefused_924 : decode cL_isRefused 924 = .ok (.isub, 1) := by decide +kernel
theorem dL_isRefused_925 : decode cL_isRefused 925 = .ok (.goto 6, 3) := by decide +kernel
theorem dL_isRefused_928 : decode cL_isRefused 928 = .ok (.sipush 1001, 3) := by decide +kernel
theorem dL_isRefused_931 : decode cL_isRefused 931 = .ok (.iconst 0, 1) := by decide +kernel
theorem dL_isRefused_932 : decode cL_isRefused 932 = .ok (.invokestatic 133, 3) := by decide +kernel
theorem dL_isRefused_935 : decode cL_isRefused 935 = .ok (.sipush (-1242), 3) := by decide +kernel
theorem dL_isRefused_938 : decode cL_isRefused 938 = .ok (.if_icmp .ne 73, 3) := by decide +kernel
theorem dL_isRefused_941 : decode cL_isRefused 941 = .ok (.aload_n 1, 1) := by decide +kernel
theorem dL_isRefused_942 : decode cL_isRefused 942 = .ok (.bipush 12, 2) := by decide +kernel
theorem dL_isRefused_944 : decode cL_isRefused 944 = .ok (.iload 12, 2) := by decide +kernel
theorem dL_isRefused_946 : decode cL_isRefused 946 = .ok (.imul, 1) := by decide +kernel
theorem dL_isRefused_947 : decode cL_isRefused 947 = .ok (.iconst 3, 1) := by decide +kernel
theorem dL_isRefused_948 : decode cL_isRefused 948 = .ok (.iadd, 1) := by decide +kernel
theorem dL_isRefused_949 : decode cL_isRefused 949 = .ok (.iaload, 1) := by decide +kernel
theorem dL_isRefused_950 : decode cL_isRefused 950 = .ok (.ifCond .eq 20, 3) := by decide +kernel
theorem dL_isRefused_953 : decode cL_isRefused 953 = .ok (.aload_n 0, 1) := by decide +kernel
theorem dL_isRefused_954 : decode cL_isRefused 954 = .ok (.bipush 6, 2) := by decide +kernel
theorem dL_isRefused_956 : decode cL_isRefused 956 = .ok (.iload 12, 2) := by decide +kernel
theorem dL_isRefused_958 : decode cL_isRefused 958 = .ok (.iconst 0, 1) := by decide +kernel
theorem dL_isRefused_959 : decode cL_isRefused 959 = .ok (.iconst 0, 1) := by decide +kernel
theorem dL_isRefused_960 : decode cL_isRefused 960 = .ok (.iconst 0, 1) := by decide +kernel
theorem dL_isRefused_961 : decode cL_isRefused 961 = .ok (.invokestatic 133, 3) := by decide +kernel
theorem dL_isRefused_964 : decode cL_isRefused 964 = .ok (.sipush (-1243), 3) := by decide +kernel
theorem dL_isRefused_967 : decode cL_isRefused 967 = .ok (.if_icmp .ne 44, 3) := by decide +kernel
theorem dL_isRefused_970 : decode cL_isRefused 970 = .ok (.aload_n 1, 1) := by decide +kernel
theorem dL_isRefused_971 : decode cL_isRefused 971 = .ok (.bipush 12, 2) := by decide +kernel
theorem dL_isRefused_973 : decode cL_isRefused 973 = .ok (.iload 12, 2) := by decide +kernel
theorem dL_isRefused_975 : decode cL_isRefused 975 = .ok (.imul, 1) := by decide +kernel
theorem dL_isRefused_976 : decode cL_isRefused 976 = .ok (.iconst 4, 1) := by decide +kernel
theorem dL_isRefused_977 : decode cL_isRefused 977 = .ok (.iadd, 1) := by decide +kernel
theorem dL_isRefused_978 : decode cL_isRefused 978 = .ok (.iaload, 1) := by decide +kernel
theorem dL_isRefused_979 : decode cL_isRefused 979 = .ok (.iconst 5, 1) := by decide +kernel
theorem dL_isRefused_980 : decode cL_isRefused 980 = .ok (.if_icmp .lt 27, 3) := by decide +kernel
theorem dL_isRefused_983 : decode cL_isRefused 983 = .ok (.aload_n 0, 1) := by decide +kernel
theorem dL_isRefused_984 : decode cL_isRefused 984 = .ok (.bipush 7, 2) := by decide +kernel
theorem dL_isRefused_986 : decode cL_isRefused 986 = .ok (.iload 12, 2) := by decide +kernel
theorem dL_isRefused_988 : decode cL_isRefused 988 = .ok (.aload_n 0, 1) := by decide +kernel
theorem dL_isRefused_989 : decode cL_isRefused 989 = .ok (.invokevirtual 103, 3) := by decide +kernel
theorem dL_isRefused_992 : decode cL_isRefused 992 = .ok (.iconst 1, 1) := by decide +kernel
theorem dL_isRefused_993 : decode cL_isRefused 993 = .ok (.iadd, 1) := by decide +kernel
theorem dL_isRefused_994 : decode cL_isRefused 994 = .ok (.sipush 1000, 3) := by decide +kernel
theorem dL_isRefused_997 : decode cL_isRefused 997 = .ok (.iconst 0, 1) := by decide +kernel
theorem dL_isRefused_998 : decode cL_isRefused 998 = .ok (.invokestatic 133, 3) := by decide +kernel
theorem dL_isRefused_1001 : decode cL_isRefused 1001 = .ok (.sipush (-1243), 3) := by decide +kernel
theorem dL_isRefused_1004 : decode cL_isRefused 1004 = .ok (.if_icmp .ne 7, 3) := by decide +kernel
theorem dL_isRefused_1007 : decode cL_isRefused 1007 = .ok (.iconst 1, 1) := by decide +kernel
theorem dL_isRefused_1008 : decode cL_isRefused 1008 = .ok (.goto 4, 3) := by decide +kernel
theorem dL_isRefused_1011 : decode cL_isRefused 1011 = .ok (.iconst 0, 1) := by decide +kernel
theorem dL_isRefused_1012 : decode cL_isRefused 1012 = .ok (.istore 11, 2) := by decide +kernel
theorem dL_isRefused_1014 : decode cL_isRefused 1014 = .ok (.iinc 12 1, 3) := by decide +kernel
theorem dL_isRefused_1017 : decode cL_isRefused 1017 = .ok (.goto (-170), 3) := by decide +kernel
theorem dL_isRefused_1020 : decode cL_isRefused 1020 = .ok (.iload 11, 2) := by decide +kernel
theorem dL_isRefused_1022 : decode cL_isRefused 1022 = .ok (.ifCond .eq 18, 3) := by decide +kernel
theorem dL_isRefused_1025 : decode cL_isRefused 1025 = .ok (.aload_n 0, 1) := by decide +kernel
theorem dL_isRefused_1026 : decode cL_isRefused 1026 = .ok (.aload_n 2, 1) := by decide +kernel
theorem dL_isRefused_1027 : decode cL_isRefused 1027 = .ok (.invokestatic 172, 3) := by decide +kernel
theorem dL_isRefused_1030 : decode cL_isRefused 1030 = .ok (.lload 9, 2) := by decide +kernel
theorem dL_isRefused_1032 : decode cL_isRefused 1032 = .ok (.lcmp, 1) := by decide +kernel
theorem dL_isRefused_1033 : decode cL_isRefused 1033 = .ok (.ifCond .ne 7, 3) := by decide +kernel
theorem dL_isRefused_1036 : decode cL_isRefused 1036 = .ok (.iconst 1, 1) := by decide +kernel
theorem dL_isRefused_1037 : decode cL_isRefused 1037 = .ok (.goto 4, 3) := by decide +kernel
theorem dL_isRefused_1040 : decode cL_isRefused 1040 = .ok (.iconst 0, 1) := by decide +kernel
theorem dL_isRefused_1041 : decode cL_isRefused 1041 = .ok (.ireturn, 1) := by decide +kernel
def f_L_isRefused_b1020 (F Z : Nat) (s : St) (l9 : Int64) (l11 : Int32) : Option (Int32 × St) :=
  if l11 = 0 then
    (some (0, s))
  else
    ((f_L_all F Z s).bind fun x38 => (if ct s ≤ ct x38.2 ∧ ct x38.2 ≤ Z then (if x38.1 = l9 then
      (some (1, x38.2))
    else
      (some (0, x38.2))) else none))
def f_L_isRefused_b970 (F Z : Nat) (K847 : St → Int32 → Int32 → Int64 → Int32 → Int32 → Option (Int32 × St)) (s : St) (l3 : Int32) (l4 : Int32) (l9 : Int64) (l12 : Int32) : Option (Int32 × St) :=
  (ix 48 (((12 : Int32) * l12) + 4)).bind fun j44 => (if (gA s 42 j44) < 5 then
    (K847 s l3 l4 l9 1 (l12 + 1))
  else
    ((f_P_now F s).bind fun x45 => (lt (kb s x45.2 0) fun s46 => ((f_L_act F Z s46 7 l12 (x45.1 + 1) 1000 0).bind fun x47 => (if ct s46 ≤ ct x47.2 ∧ ct x47.2 ≤ Z then (if x47.1 = (-1243) then
      (K847 x47.2 l3 l4 l9 1 (l12 + 1))
    else
      (K847 x47.2 l3 l4 l9 0 (l12 + 1))) else none)))))
def f_L_isRefused_b931 (F Z : Nat) (K847 : St → Int32 → Int32 → Int64 → Int32 → Int32 → Option (Int32 × St)) (s : St) (l3 : Int32) (l4 : Int32) (l9 : Int64) (l12 : Int32) (t1 : Int32) (t2 : Int32) (t3 : Int32) (t4 : Int32) : Option (Int32 × St) :=
  (f_L_act F Z s t1 t2 t3 t4 0).bind fun x42 => (if ct s ≤ ct x42.2 ∧ ct x42.2 ≤ Z then (if x42.1 = (-1242) then
    ((ix 48 (((12 : Int32) * l12) + 3)).bind fun j43 => (if (gA x42.2 42 j43) = 0 then
      (f_L_isRefused_b970 F Z K847 x42.2 l3 l4 l9 l12)
    else
      ((f_L_act F Z x42.2 6 l12 0 0 0).bind fun x48 => (if ct x42.2 ≤ ct x48.2 ∧ ct x48.2 ≤ Z then (if x48.1 = (-1243) then
        (f_L_isRefused_b970 F Z K847 x48.2 l3 l4 l9 l12)
      else
        (K847 x48.2 l3 l4 l9 0 (l12 + 1))) else none))))
  else
    (K847 x42.2 l3 l4 l9 0 (l12 + 1))) else none)
def f_L_isRefused_b885 (F Z : Nat) (K847 : St → Int32 → Int32 → Int64 → Int32 → Int32 → Option (Int32 × St)) (s : St) (l3 : Int32) (l4 : Int32) (l9 : Int64) (l12 : Int32) (t1 : Int32) (t2 : Int32) (t3 : Int32) : Option (Int32 × St) :=
  (f_L_act F Z s t1 t2 t3 1000 0).bind fun x39 => (if ct s ≤ ct x39.2 ∧ ct x39.2 ≤ Z then (if x39.1 = (-1242) then
    ((f_P_now F x39.2).bind fun x40 => (lt (kb x39.2 x40.2 0) fun s41 => (if l4 = 0 then
      (f_L_isRefused_b931 F Z K847 s41 l3 l4 l9 l12 7 l12 (x40.1 + 2) 1001)
    else
      ((f_P_now F s41).bind fun x49 => (lt (kb s41 x49.2 0) fun s50 => (f_L_isRefused_b931 F Z K847 s50 l3 l4 l9 l12 7 l12 (x40.1 + 2) ((x49.1 + 1) - (l3 - l3 / 30 * 30))))))))
  else
    (K847 x39.2 l3 l4 l9 0 (l12 + 1))) else none)
def f_L_isRefused_b847 (F Z : Nat) : Nat → St → Int32 → Int32 → Int64 → Int32 → Int32 → Option (Int32 × St)
  | 0, _, _, _, _, _, _ => none
  | n + 1, s, l3, l4, l9, l11, l12 =>
    (ix 4 1).bind fun j37 => (if (gA s 39 j37) ≤ l12 then
      (f_L_isRefused_b1020 F Z s l9 l11)
    else
      (if l11 = 0 then
        (f_L_isRefused_b1020 F Z s l9 l11)
      else
        (if l4 = 0 then
          (f_L_isRefused_b885 F Z (f_L_isRefused_b847 F Z n) s l3 l4 l9 l12 7 l12 1001)
        else
          ((f_P_now F s).bind fun x51 => (lt (kb s x51.2 0) fun s52 => (f_L_isRefused_b885 F Z (f_L_isRefused_b847 F Z n) s52 l3 l4 l9 l12 7 l12 (x51.1 - (l3 - l3 / 30 * 30))))))))
def f_L_isRefused_b816 (F Z : Nat) (K674 : St → Int32 → Int32 → Int32 → Int32 → Int64 → Int32 → Int32 → Option (Int32 × St)) (s : St) (l3 : Int32) (l4 : Int32) (l5 : Int32) (l8 : Int32) (l9 : Int64) (l12 : Int32) : Option (Int32 × St) :=
  (f_L_of F Z s 3 l12 l5).bind fun x58 => (if ct s ≤ ct x58.2 ∧ ct x58.2 ≤ Z then (if x58.1 = (-1241) then
    (K674 x58.2 l3 l4 l5 l8 l9 1 (l12 + 1))
  else
    (K674 x58.2 l3 l4 l5 l8 l9 0 (l12 + 1))) else none)
def f_L_isRefused_b800 (F Z : Nat) (K674 : St → Int32 → Int32 → Int32 → Int32 → Int64 → Int32 → Int32 → Option (Int32 × St)) (s : St) (l3 : Int32) (l4 : Int32) (l5 : Int32) (l8 : Int32) (l9 : Int64) (l12 : Int32) : Option (Int32 × St) :=
  (f_L_act F Z s 5 l12 5 5 0).bind fun x57 => (if ct s ≤ ct x57.2 ∧ ct x57.2 ≤ Z then (if x57.1 = (-1243) then
    (f_L_isRefused_b816 F Z K674 x57.2 l3 l4 l5 l8 l9 l12)
  else
    (K674 x57.2 l3 l4 l5 l8 l9 0 (l12 + 1))) else none)
def f_L_isRefused_b776 (F Z : Nat) (K674 : St → Int32 → Int32 → Int32 → Int32 → Int64 → Int32 → Int32 → Option (Int32 × St)) (s : St) (l3 : Int32) (l4 : Int32) (l5 : Int32) (l8 : Int32) (l9 : Int64) (l12 : Int32) (t1 : Int32) (t2 : Int32) (t3 : Int32) (t4 : Int32) : Option (Int32 × St) :=
  (f_L_act F Z s t1 t2 t3 t4 0).bind fun x55 => (if ct s ≤ ct x55.2 ∧ ct x55.2 ≤ Z then (if x55.1 = (-1242) then
    ((ix 4 1).bind fun j56 => (if 4 ≤ (gA x55.2 39 j56) then
      (f_L_isRefused_b800 F Z K674 x55.2 l3 l4 l5 l8 l9 l12)
    else
      ((qd Z x55.2 (fun z => f_P_errorAt F z x55.2)).bind fun x59 => ((an x59.1).bind fun v60 => (if v60 < 0 then
        (f_L_isRefused_b816 F Z K674 x59.2 l3 l4 l5 l8 l9 l12)
      else
        (f_L_isRefused_b800 F Z K674 x59.2 l3 l4 l5 l8 l9 l12))))))
  else
    (K674 x55.2 l3 l4 l5 l8 l9 0 (l12 + 1))) else none)
def f_L_isRefused_b744 (F Z : Nat) (K674 : St → Int32 → Int32 → Int32 → Int32 → Int64 → Int32 → Int32 → Option (Int32 × St)) (s : St) (l3 : Int32) (l4 : Int32) (l5 : Int32) (l8 : Int32) (l9 : Int64) (l12 : Int32) (t1 : Int32) (t2 : Int32) (t3 : Int32) : Option (Int32 × St) :=
  (f_L_act F Z s t1 t2 t3 5 0).bind fun x54 => (if ct s ≤ ct x54.2 ∧ ct x54.2 ≤ Z then (if x54.1 = (-1242) then
    (if l4 = 0 then
      (f_L_isRefused_b776 F Z K674 x54.2 l3 l4 l5 l8 l9 l12 5 l12 5 73)
    else
      (f_L_isRefused_b776 F Z K674 x54.2 l3 l4 l5 l8 l9 l12 5 l12 5 (((-1) : Int32) - (l3 - l3 / 30 * 30))))
  else
    (K674 x54.2 l3 l4 l5 l8 l9 0 (l12 + 1))) else none)
def f_L_isRefused_b713 (F Z : Nat) (K674 : St → Int32 → Int32 → Int32 → Int32 → Int64 → Int32 → Int32 → Option (Int32 × St)) (s : St) (l3 : Int32) (l4 : Int32) (l5 : Int32) (l8 : Int32) (l9 : Int64) (l12 : Int32) (t1 : Int32) (t2 : Int32) (t3 : Int32) : Option (Int32 × St) :=
  (f_L_act F Z s t1 t2 t3 0 0).bind fun x53 => (if ct s ≤ ct x53.2 ∧ ct x53.2 ≤ Z then (if x53.1 = (-1242) then
    (if l4 = 0 then
      (f_L_isRefused_b744 F Z K674 x53.2 l3 l4 l5 l8 l9 l12 5 l12 73)
    else
      (f_L_isRefused_b744 F Z K674 x53.2 l3 l4 l5 l8 l9 l12 5 l12 ((0 : Int32) - (l3 - l3 / 30 * 30))))
  else
    (K674 x53.2 l3 l4 l5 l8 l9 0 (l12 + 1))) else none)
def f_L_isRefused_b674 (F Z : Nat) : Nat → St → Int32 → Int32 → Int32 → Int32 → Int64 → Int32 → Int32 → Option (Int32 × St)
  | 0, _, _, _, _, _, _, _, _ => none
  | n + 1, s, l3, l4, l5, l8, l9, l11, l12 =>
    (ix 4 0).bind fun j36 => (if (gA s 39 j36) ≤ l12 then
      (f_L_isRefused_b847 F Z F s l3 l4 l9 l11 0)
    else
      (if l11 = 0 then
        (f_L_isRefused_b847 F Z F s l3 l4 l9 l11 0)
      else
        (if l4 = 0 then
          (f_L_isRefused_b713 F Z (f_L_isRefused_b674 F Z n) s l3 l4 l5 l8 l9 l12 4 l12 ((126 : Int32) + (l3 - l3 / 30 * 30)))
        else
          (f_L_isRefused_b713 F Z (f_L_isRefused_b674 F Z n) s l3 l4 l5 l8 l9 l12 4 l12 (l8 - (l3 - l3 / 30 * 30))))))
def f_L_isRefused_b648 (F Z : Nat) (K619 : St → Int32 → Int32 → Int32 → Int32 → Int32 → Int32 → Int64 → Int32 → Int32 → Option (Int32 × St)) (s : St) (l3 : Int32) (l4 : Int32) (l5 : Int32) (l6 : Int32) (l7 : Int32) (l8 : Int32) (l9 : Int64) (l12 : Int32) (t1 : Int32) (t2 : Int32) : Option (Int32 × St) :=
  (f_L_of F Z s t1 t2 0).bind fun x61 => (if ct s ≤ ct x61.2 ∧ ct x61.2 ≤ Z then (if x61.1 = (-1241) then
    (K619 x61.2 l3 l4 l5 l6 l7 l8 l9 1 (l12 + 1))
  else
    (K619 x61.2 l3 l4 l5 l6 l7 l8 l9 0 (l12 + 1))) else none)
def f_L_isRefused_b619 (F Z : Nat) : Nat → St → Int32 → Int32 → Int32 → Int32 → Int32 → Int32 → Int64 → Int32 → Int32 → Option (Int32 × St)
  | 0, _, _, _, _, _, _, _, _, _, _ => none
  | n + 1, s, l3, l4, l5, l6, l7, l8, l9, l11, l12 =>
    if 11 ≤ l12 then
      (f_L_isRefused_b674 F Z F s l3 l4 l5 l8 l9 l11 0)
    else
      (if l11 = 0 then
        (f_L_isRefused_b674 F Z F s l3 l4 l5 l8 l9 l11 0)
      else
        (if 7 ≤ l12 then
          (f_L_isRefused_b648 F Z (f_L_isRefused_b619 F Z n) s l3 l4 l5 l6 l7 l8 l9 l12 l12 l7)
        else
          (f_L_isRefused_b648 F Z (f_L_isRefused_b619 F Z n) s l3 l4 l5 l6 l7 l8 l9 l12 l12 l6)))
def f_L_isRefused_b570 (F Z : Nat) (s : St) (l3 : Int32) (l4 : Int32) (l5 : Int32) (l6 : Int32) (l7 : Int32) (l8 : Int32) (l9 : Int64) (t1 : Int32) (t2 : Int32) : Option (Int32 × St) :=
  (f_P_now F s).bind fun x30 => (lt (kb s x30.2 0) fun s31 => ((f_L_told F Z s31 t1 t2 x30.1).bind fun x32 => (if ct s31 ≤ ct x32.2 ∧ ct x32.2 ≤ Z then (if x32.1 = (-124200000000) then
    ((f_P_now F x32.2).bind fun x33 => (lt (kb x32.2 x33.2 0) fun s34 => ((f_L_told F Z s34 l4 0 ((x33.1 + 1) + (l3 - l3 / 30 * 30))).bind fun x35 => (if ct s34 ≤ ct x35.2 ∧ ct x35.2 ≤ Z then (if x35.1 = (-124200000000) then
      (f_L_isRefused_b619 F Z F x35.2 l3 l4 l5 l6 l7 l8 l9 1 4)
    else
      (f_L_isRefused_b619 F Z F x35.2 l3 l4 l5 l6 l7 l8 l9 0 4)) else none))))
  else
    (f_L_isRefused_b619 F Z F x32.2 l3 l4 l5 l6 l7 l8 l9 0 4)) else none)))
def f_L_isRefused_b508 (F Z : Nat) (s : St) (l3 : Int32) (l4 : Int32) (l5 : Int32) (l6 : Int32) (l7 : Int32) (l8 : Int32) (l9 : Int64) (t1 : Int32) (t2 : Int32) : Option (Int32 × St) :=
  (f_L_of F Z s t1 t2 0).bind fun x25 => (if ct s ≤ ct x25.2 ∧ ct x25.2 ≤ Z then (if x25.1 = (-1242) then
    ((f_L_of F Z x25.2 2 l5 0).bind fun x26 => (if ct x25.2 ≤ ct x26.2 ∧ ct x26.2 ≤ Z then (if x26.1 = (-1241) then
      ((f_L_of F Z x26.2 3 l5 l5).bind fun x27 => (if ct x26.2 ≤ ct x27.2 ∧ ct x27.2 ≤ Z then (if x27.1 = (-1241) then
        (if l4 = 0 then
          ((f_P_now F x27.2).bind fun x28 => (lt (kb x27.2 x28.2 0) fun s29 => (f_L_isRefused_b570 F Z s29 l3 l4 l5 l6 l7 l8 l9 l4 (x28.1 + 1))))
        else
          (f_L_isRefused_b570 F Z x27.2 l3 l4 l5 l6 l7 l8 l9 l4 (((-1) : Int32) - (l3 - l3 / 30 * 30))))
      else
        (f_L_isRefused_b619 F Z F x27.2 l3 l4 l5 l6 l7 l8 l9 0 4)) else none))
    else
      (f_L_isRefused_b619 F Z F x26.2 l3 l4 l5 l6 l7 l8 l9 0 4)) else none))
  else
    (f_L_isRefused_b619 F Z F x25.2 l3 l4 l5 l6 l7 l8 l9 0 4)) else none)
def f_L_isRefused_b473 (F Z : Nat) (s : St) (l3 : Int32) (l4 : Int32) (l5 : Int32) (l6 : Int32) (l7 : Int32) (l8 : Int32) (l9 : Int64) (t1 : Int32) (t2 : Int32) : Option (Int32 × St) :=
  (f_L_of F Z s t1 t2 0).bind fun x24 => (if ct s ≤ ct x24.2 ∧ ct x24.2 ≤ Z then (if x24.1 = (-1242) then
    (if l4 = 0 then
      (f_L_isRefused_b508 F Z x24.2 l3 l4 l5 l6 l7 l8 l9 1 ((l8 + 1) + (l3 - l3 / 30 * 30)))
    else
      (f_L_isRefused_b508 F Z x24.2 l3 l4 l5 l6 l7 l8 l9 1 (((-1) : Int32) - (l3 - l3 / 30 * 30))))
  else
    (f_L_isRefused_b619 F Z F x24.2 l3 l4 l5 l6 l7 l8 l9 0 4)) else none)
def f_L_isRefused_b296 (F Z : Nat) (s : St) (l3 : Int32) (l4 : Int32) (l5 : Int32) (l6 : Int32) (l7 : Int32) (l8 : Int32) (l9 : Int64) (t1 : Int32) (t2 : Int32) (t3 : Int32) (t4 : Int32) (t5 : Int32) : Option (Int32 × St) :=
  (f_L_act F Z s t1 t2 t3 t4 t5).bind fun x15 => (if ct s ≤ ct x15.2 ∧ ct x15.2 ≤ Z then (if x15.1 = (-1242) then
    ((f_L_act F Z x15.2 4 l5 l8 0 0).bind fun x16 => (if ct x15.2 ≤ ct x16.2 ∧ ct x16.2 ≤ Z then (if x16.1 = (-1241) then
      ((f_L_act F Z x16.2 5 l5 0 (-1) 0).bind fun x17 => (if ct x16.2 ≤ ct x17.2 ∧ ct x17.2 ≤ Z then (if x17.1 = (-1241) then
        ((f_L_act F Z x17.2 6 l6 0 0 0).bind fun x18 => (if ct x17.2 ≤ ct x18.2 ∧ ct x18.2 ≤ Z then (if x18.1 = (-1241) then
          ((f_L_act F Z x18.2 7 l6 0 0 0).bind fun x19 => (if ct x18.2 ≤ ct x19.2 ∧ ct x19.2 ≤ Z then (if x19.1 = (-1241) then
            ((f_L_act F Z x19.2 8 l7 0 0 0).bind fun x20 => (if ct x19.2 ≤ ct x20.2 ∧ ct x20.2 ≤ Z then (if x20.1 = (-1241) then
              ((f_L_swapped F Z x20.2 (l8 - (l3 - l3 / 30 * 30)) (l8 + 1)).bind fun x21 => (if ct x20.2 ≤ ct x21.2 ∧ ct x21.2 ≤ Z then (if x21.1 = (-1242) then
                ((f_L_swapped F Z x21.2 (l8 + 1) (l8 + 1)).bind fun x22 => (if ct x21.2 ≤ ct x22.2 ∧ ct x22.2 ≤ Z then (if x22.1 = (-1242) then
                  ((f_L_swapped F Z x22.2 (l8 + 2) ((126 : Int32) + (l3 - l3 / 30 * 30))).bind fun x23 => (if ct x22.2 ≤ ct x23.2 ∧ ct x23.2 ≤ Z then (if x23.1 = (-1242) then
                    (if l4 = 0 then
                      (f_L_isRefused_b473 F Z x23.2 l3 l4 l5 l6 l7 l8 l9 0 ((126 : Int32) + (l3 - l3 / 30 * 30)))
                    else
                      (f_L_isRefused_b473 F Z x23.2 l3 l4 l5 l6 l7 l8 l9 0 (l8 - (l3 - l3 / 30 * 30))))
                  else
                    (f_L_isRefused_b619 F Z F x23.2 l3 l4 l5 l6 l7 l8 l9 0 4)) else none))
                else
                  (f_L_isRefused_b619 F Z F x22.2 l3 l4 l5 l6 l7 l8 l9 0 4)) else none))
              else
                (f_L_isRefused_b619 F Z F x21.2 l3 l4 l5 l6 l7 l8 l9 0 4)) else none))
            else
              (f_L_isRefused_b619 F Z F x20.2 l3 l4 l5 l6 l7 l8 l9 0 4)) else none))
          else
            (f_L_isRefused_b619 F Z F x19.2 l3 l4 l5 l6 l7 l8 l9 0 4)) else none))
        else
          (f_L_isRefused_b619 F Z F x18.2 l3 l4 l5 l6 l7 l8 l9 0 4)) else none))
      else
        (f_L_isRefused_b619 F Z F x17.2 l3 l4 l5 l6 l7 l8 l9 0 4)) else none))
    else
      (f_L_isRefused_b619 F Z F x16.2 l3 l4 l5 l6 l7 l8 l9 0 4)) else none))
  else
    (f_L_isRefused_b619 F Z F x15.2 l3 l4 l5 l6 l7 l8 l9 0 4)) else none)
def f_L_isRefused_b256 (F Z : Nat) (s : St) (l3 : Int32) (l4 : Int32) (l5 : Int32) (l6 : Int32) (l7 : Int32) (l8 : Int32) (l9 : Int64) (t1 : Int32) (t2 : Int32) (t3 : Int32) (t4 : Int32) : Option (Int32 × St) :=
  (f_L_act F Z s t1 t2 t3 t4 0).bind fun x12 => (if ct s ≤ ct x12.2 ∧ ct x12.2 ≤ Z then (if x12.1 = (-1242) then
    (if l4 = 0 then
      ((f_P_now F x12.2).bind fun x13 => (lt (kb x12.2 x13.2 0) fun s14 => (f_L_isRefused_b296 F Z s14 l3 l4 l5 l6 l7 l8 l9 2 0 0 0 ((x13.1 + 1) + (l3 - l3 / 30 * 30)))))
    else
      (f_L_isRefused_b296 F Z x12.2 l3 l4 l5 l6 l7 l8 l9 2 0 0 0 (((-1) : Int32) - (l3 - l3 / 30 * 30))))
  else
    (f_L_isRefused_b619 F Z F x12.2 l3 l4 l5 l6 l7 l8 l9 0 4)) else none)
def f_L_isRefused_b222 (F Z : Nat) (s : St) (l3 : Int32) (l4 : Int32) (l5 : Int32) (l6 : Int32) (l7 : Int32) (l8 : Int32) (l9 : Int64) (t1 : Int32) (t2 : Int32) (t3 : Int32) : Option (Int32 × St) :=
  (f_L_act F Z s t1 t2 t3 0 0).bind fun x11 => (if ct s ≤ ct x11.2 ∧ ct x11.2 ≤ Z then (if x11.1 = (-1242) then
    (if l4 = 0 then
      (f_L_isRefused_b256 F Z x11.2 l3 l4 l5 l6 l7 l8 l9 2 0 0 1001)
    else
      (f_L_isRefused_b256 F Z x11.2 l3 l4 l5 l6 l7 l8 l9 2 0 0 (((-1001) : Int32) - (l3 - l3 / 30 * 30))))
  else
    (f_L_isRefused_b619 F Z F x11.2 l3 l4 l5 l6 l7 l8 l9 0 4)) else none)
def f_L_isRefused_b191 (F Z : Nat) (s : St) (l3 : Int32) (l4 : Int32) (l5 : Int32) (l6 : Int32) (l7 : Int32) (l8 : Int32) (l9 : Int64) (t1 : Int32) (t2 : Int32) : Option (Int32 × St) :=
  (f_L_act F Z s t1 t2 0 0 0).bind fun x10 => (if ct s ≤ ct x10.2 ∧ ct x10.2 ≤ Z then (if x10.1 = (-1242) then
    (if l4 = 0 then
      (f_L_isRefused_b222 F Z x10.2 l3 l4 l5 l6 l7 l8 l9 2 0 6)
    else
      (f_L_isRefused_b222 F Z x10.2 l3 l4 l5 l6 l7 l8 l9 2 0 (((-1) : Int32) - (l3 - l3 / 30 * 30))))
  else
    (f_L_isRefused_b619 F Z F x10.2 l3 l4 l5 l6 l7 l8 l9 0 4)) else none)
def f_L_isRefused_b161 (F Z : Nat) (s : St) (l3 : Int32) (l4 : Int32) (l5 : Int32) (l6 : Int32) (l7 : Int32) (l8 : Int32) (l9 : Int64) (t1 : Int32) (t2 : Int32) : Option (Int32 × St) :=
  (f_L_act F Z s t1 t2 0 0 0).bind fun x9 => (if ct s ≤ ct x9.2 ∧ ct x9.2 ≤ Z then (if x9.1 = (-1242) then
    (if l4 = 0 then
      (f_L_isRefused_b191 F Z x9.2 l3 l4 l5 l6 l7 l8 l9 2 8)
    else
      (f_L_isRefused_b191 F Z x9.2 l3 l4 l5 l6 l7 l8 l9 2 (((-1) : Int32) - (l3 - l3 / 30 * 30))))
  else
    (f_L_isRefused_b619 F Z F x9.2 l3 l4 l5 l6 l7 l8 l9 0 4)) else none)
def f_L_isRefused_b126 (F Z : Nat) (s : St) (l3 : Int32) (l4 : Int32) (l5 : Int32) (l6 : Int32) (l7 : Int32) (l8 : Int32) (l9 : Int64) (t1 : Int32) (t2 : Int32) : Option (Int32 × St) :=
  (f_L_act F Z s t1 t2 0 0 0).bind fun x8 => (if ct s ≤ ct x8.2 ∧ ct x8.2 ≤ Z then (if x8.1 = (-1242) then
    (if l4 = 0 then
      (f_L_isRefused_b161 F Z x8.2 l3 l4 l5 l6 l7 l8 l9 1 ((25 : Int32) + (l3 - l3 / 30 * 30)))
    else
      (f_L_isRefused_b161 F Z x8.2 l3 l4 l5 l6 l7 l8 l9 1 ((0 : Int32) - (l3 - l3 / 30 * 30))))
  else
    (f_L_isRefused_b619 F Z F x8.2 l3 l4 l5 l6 l7 l8 l9 0 4)) else none)
def f_L_isRefused_b84 (F Z : Nat) (s : St) (l3 : Int32) (l4 : Int32) (l5 : Int32) (l6 : Int32) (t0 : Int32) : Option (Int32 × St) :=
  (f_P_now F s).bind fun x5 => (lt (kb s x5.2 0) fun s6 => ((f_L_all F Z s6).bind fun x7 => (if ct s6 ≤ ct x7.2 ∧ ct x7.2 ≤ Z then (if l4 = 0 then
    (f_L_isRefused_b126 F Z x7.2 l3 l4 l5 l6 t0 (x5.1 / 8) x7.1 0 ((127 : Int32) + (l3 - l3 / 30 * 30)))
  else
    (f_L_isRefused_b126 F Z x7.2 l3 l4 l5 l6 t0 (x5.1 / 8) x7.1 0 ((31 : Int32) - (l3 - l3 / 30 * 30)))) else none)))
def f_L_isRefused_b59 (F Z : Nat) (s : St) (l3 : Int32) (l4 : Int32) (l5 : Int32) (t0 : Int32) : Option (Int32 × St) :=
  if l4 = 0 then
    ((f_P_alarms F s).bind fun x3 => (lt (kb s x3.2 0) fun s4 => (f_L_isRefused_b84 F Z s4 l3 l4 l5 t0 (x3.1 + (l3 - l3 / 30 * 30)))))
  else
    (f_L_isRefused_b84 F Z s l3 l4 l5 t0 (((-1) : Int32) - (l3 - l3 / 30 * 30)))
def f_L_isRefused_b35 (F Z : Nat) (s : St) (l3 : Int32) (l4 : Int32) (t0 : Int32) : Option (Int32 × St) :=
  if l4 = 0 then
    ((ix 4 1).bind fun j2 => (f_L_isRefused_b59 F Z s l3 l4 t0 ((gA s 39 j2) + (l3 - l3 / 30 * 30))))
  else
    (f_L_isRefused_b59 F Z s l3 l4 t0 (((-1) : Int32) - (l3 - l3 / 30 * 30)))
def f_L_isRefused_b11 (F Z : Nat) (s : St) (l3 : Int32) (t0 : Int32) : Option (Int32 × St) :=
  if t0 = 0 then
    ((ix 4 0).bind fun j1 => (f_L_isRefused_b35 F Z s l3 t0 ((gA s 39 j1) + (l3 - l3 / 30 * 30))))
  else
    (f_L_isRefused_b35 F Z s l3 t0 (((-1) : Int32) - (l3 - l3 / 30 * 30)))
def f_L_isRefused (F Z : Nat) (s : St) (p3 : Int32) : Option (Int32 × St) :=
  if (p3 - p3 / 2 * 2) = 0 then
    (f_L_isRefused_b11 F Z s p3 1)
  else
    (f_L_isRefused_b11 F Z s p3 0)
set_option maxHeartbeats 1000000 in
theorem c_f_L_isRefused_b1020 {F Z : Nat} {c0 : Nat} {Γ : Ga} {D : DD} {B : Nat} {r : Int32} {s' : St} (X : Cx Γ RL cL_isRefused 13 D B (RMg Z c0 804 16500)) (M : RLe (RMg Z c0 804 16500) Z 0 0 c0 804 16500) (Y : Xy Γ B) (hr : (Gme Γ).sig.returnType = (some .boolean)) {s : St} {l9 : Int64} {l11 : Int32} (hc : Hc c0 Z s) (hf : f_L_isRefused_b1020 F Z s l9 l11 = some (r, s')) : V Γ D B true 13 (QX Γ D B true s' (.inl (some (.int r))) (64 * (ct s' - c0)) (768 * (ct s' - c0))) (kg 0 c0 s) (ng 0 c0 s) s 1020 [(0, .ref (B + 0)), (2, .ref (B + 39)), (9, .long l9), (11, .int l11)] [] := by
  unfold f_L_isRefused_b1020 at hf
  refine r_iload (pc := 1020) X dL_isRefused_1020 3 rfl ?_
  refine b_if_eq (tgt := 1040) (pc := 1022) X dL_isRefused_1022 (by decide) hf (fun hf => ?_) (fun hf => ?_)
  · refine r_iconst (v := 0) (pc := 1040) X dL_isRefused_1040 (by decide) ?_
    exact y_zret (pc := 1041) X hr (by decide) hf dL_isRefused_1041
  · refine r_aload_n (x := some 0) (pc := 1025) X dL_isRefused_1025 0 rfl ?_
    refine r_aload_n (x := some 39) (pc := 1026) X dL_isRefused_1026 1 rfl ?_
    refine bnd hf (fun x38 h38 hf => ?_)
    refine ifo hf (fun hz hf => ?_)
    refine y_callXSl (As := [.ref (B + 0), .ref (B + 39)]) (st := []) (pc := 1027) X M Y hc (c_f_L_all h38 hc.2) rfl w_1022 w_1023 w_35 w_1024 hdS_L_all (by decide) hz (Nat.le_of_ble_eq_true rfl) dL_isRefused_1027 rfl (fun hc => ?_)
    refine r_lload (pc := 1030) X dL_isRefused_1030 2 rfl ?_
    refine b_lcmp_ne (tgt := 1040) (pc := 1032) X dL_isRefused_1032 dL_isRefused_1033 (by decide) hf (fun hf => ?_) (fun hf => ?_)
    · refine r_iconst (v := 1) (pc := 1036) X dL_isRefused_1036 (by decide) ?_
      refine r_goto (tgt := 1041) (pc := 1037) X dL_isRefused_1037 (by decide) ?_
      exact y_zret (pc := 1041) X hr (by decide) hf dL_isRefused_1041
    · refine r_iconst (v := 0) (pc := 1040) X dL_isRefused_1040 (by decide) ?_
      exact y_zret (pc := 1041) X hr (by decide) hf dL_isRefused_1041
set_option maxHeartbeats 1000000 in
theorem c_f_L_isRefused_b970 {F Z : Nat} {c0 : Nat} {Γ : Ga} {D : DD} {B : Nat} {r : Int32} {s' : St} (X : Cx Γ RL cL_isRefused 13 D B (RMg Z c0 804 16500)) (M : RLe (RMg Z c0 804 16500) Z 0 0 c0 804 16500) (Y : Xy Γ B) (hr : (Gme Γ).sig.returnType = (some .boolean)) {K847 : St → Int32 → Int32 → Int64 → Int32 → Int32 → Option (Int32 × St)} (hK847 : ∀ {s : St} {l3 : Int32} {l4 : Int32} {l9 : Int64} {l11 : Int32} {l12 : Int32}, Hc c0 Z s → K847 s l3 l4 l9 l11 l12 = some (r, s') → V Γ D B true 13 (QX Γ D B true s' (.inl (some (.int r))) (64 * (ct s' - c0)) (768 * (ct s' - c0))) (kg 0 c0 s) (ng 0 c0 s) s 847 [(0, .ref (B + 0)), (1, .ref (B + 42)), (2, .ref (B + 39)), (3, .int l3), (4, .int l4), (9, .long l9), (11, .int l11), (12, .int l12)] []) {s : St} {l3 : Int32} {l4 : Int32} {l9 : Int64} {l12 : Int32} (hc : Hc c0 Z s) (hf : f_L_isRefused_b970 F Z K847 s l3 l4 l9 l12 = some (r, s')) : V Γ D B true 13 (QX Γ D B true s' (.inl (some (.int r))) (64 * (ct s' - c0)) (768 * (ct s' - c0))) (kg 0 c0 s) (ng 0 c0 s) s 970 [(0, .ref (B + 0)), (1, .ref (B + 42)), (2, .ref (B + 39)), (3, .int l3), (4, .int l4), (9, .long l9), (12, .int l12)] [] := by
  unfold f_L_isRefused_b970 at hf
  refine r_aload_n (x := some 42) (pc := 970) X dL_isRefused_970 1 rfl ?_
  refine r_bipush (v := 12) (pc := 971) X dL_isRefused_971 (by decide) ?_
  refine r_iload (pc := 973) X dL_isRefused_973 6 rfl ?_
  refine r_imul (pc := 975) X dL_isRefused_975 ?_
  refine r_iconst (v := 4) (pc := 976) X dL_isRefused_976 (by decide) ?_
  refine r_iadd (pc := 977) X dL_isRefused_977 ?_
  refine b_iald (pc := 978) X ce_42 dL_isRefused_978 hf (fun j44 hf => ?_)
  refine r_iconst (v := 5) (pc := 979) X dL_isRefused_979 (by decide) ?_
  refine b_icmp_lt (tgt := 1007) (pc := 980) X dL_isRefused_980 (by decide) hf (fun hf => ?_) (fun hf => ?_)
  · refine r_iconst (v := 1) (pc := 1007) X dL_isRefused_1007 (by decide) ?_
    refine r_goto (tgt := 1012) (pc := 1008) X dL_isRefused_1008 (by decide) ?_
    refine r_istore (pc := 1012) (lv' := [(0, .ref (B + 0)), (1, .ref (B + 42)), (2, .ref (B + 39)), (3, .int l3), (4, .int l4), (9, .long l9), (11, .int 1), (12, .int l12)]) X dL_isRefused_1012 (by decide) [1, 2, 3, 4, 5, 6, 0, 7] rfl ?_
    refine r_iinc (v := l12 + 1) (lv' := [(0, .ref (B + 0)), (1, .ref (B + 42)), (2, .ref (B + 39)), (3, .int l3), (4, .int l4), (9, .long l9), (11, .int 1), (12, .int (l12 + 1))]) (pc := 1014) X dL_isRefused_1014 7 rfl rfl (by decide) [1, 2, 3, 4, 5, 6, 7, 0] rfl ?_
    refine r_goto (tgt := 847) (pc := 1017) X dL_isRefused_1017 (by decide) ?_
    exact hK847 hc hf
  · refine r_aload_n (x := some 0) (pc := 983) X dL_isRefused_983 0 rfl ?_
    refine r_bipush (v := 7) (pc := 984) X dL_isRefused_984 (by decide) ?_
    refine r_iload (pc := 986) X dL_isRefused_986 6 rfl ?_
    refine r_aload_n (x := some 0) (pc := 988) X dL_isRefused_988 0 rfl ?_
    refine bnd hf (fun x45 h45 hf => ?_)
    refine y_callVi (As := []) (st := [.int l12, .int 7, .ref (B + 0)]) (pc := 989) X M hc (c_f_P_now h45) rfl w_317 w_318 w_319 w_36 w_320 hdV_X10_now (Rc.s rfl ce_0) (by decide) (Nat.le_of_ble_eq_true rfl) dL_isRefused_989 rfl hf (fun s46 hc hf => ?_)
    refine r_iconst (v := 1) (pc := 992) X dL_isRefused_992 (by decide) ?_
    refine r_iadd (pc := 993) X dL_isRefused_993 ?_
    refine r_sipush (v := 1000) (pc := 994) X dL_isRefused_994 (by decide) ?_
    refine r_iconst (v := 0) (pc := 997) X dL_isRefused_997 (by decide) ?_
    refine bnd hf (fun x47 h47 hf => ?_)
    refine ifo hf (fun hz hf => ?_)
    refine y_callWSi (As := [.ref (B + 0), .int 7, .int l12, .int (x45.1 + 1), .int 1000, .int 0]) (st := []) (pc := 998) X M Y hc (c_f_L_act h47 hc.2) rfl w_437 w_438 w_35 w_439 hdS_L_act (by decide) hz (Nat.le_of_ble_eq_true rfl) dL_isRefused_998 rfl (fun hc => ?_)
    refine r_sipush (v := -1243) (pc := 1001) X dL_isRefused_1001 (by decide) ?_
    refine b_icmp_ne (tgt := 1011) (pc := 1004) X dL_isRefused_1004 (by decide) hf (fun hf => ?_) (fun hf => ?_)
    · refine r_iconst (v := 1) (pc := 1007) X dL_isRefused_1007 (by decide) ?_
      refine r_goto (tgt := 1012) (pc := 1008) X dL_isRefused_1008 (by decide) ?_
      refine r_istore (pc := 1012) (lv' := [(0, .ref (B + 0)), (1, .ref (B + 42)), (2, .ref (B + 39)), (3, .int l3), (4, .int l4), (9, .long l9), (11, .int 1), (12, .int l12)]) X dL_isRefused_1012 (by decide) [1, 2, 3, 4, 5, 6, 0, 7] rfl ?_
      refine r_iinc (v := l12 + 1) (lv' := [(0, .ref (B + 0)), (1, .ref (B + 42)), (2, .ref (B + 39)), (3, .int l3), (4, .int l4), (9, .long l9), (11, .int 1), (12, .int (l12 + 1))]) (pc := 1014) X dL_isRefused_1014 7 rfl rfl (by decide) [1, 2, 3, 4, 5, 6, 7, 0] rfl ?_
      refine r_goto (tgt := 847) (pc := 1017) X dL_isRefused_1017 (by decide) ?_
      exact hK847 hc hf
    · refine r_iconst (v := 0) (pc := 1011) X dL_isRefused_1011 (by decide) ?_
      refine r_istore (pc := 1012) (lv' := [(0, .ref (B + 0)), (1, .ref (B + 42)), (2, .ref (B + 39)), (3, .int l3), (4, .int l4), (9, .long l9), (11, .int 0), (12, .int l12)]) X dL_isRefused_1012 (by decide) [1, 2, 3, 4, 5, 6, 0, 7] rfl ?_
      refine r_iinc (v := l12 + 1) (lv' := [(0, .ref (B + 0)), (1, .ref (B + 42)), (2, .ref (B + 39)), (3, .int l3), (4, .int l4), (9, .long l9), (11, .int 0), (12, .int (l12 + 1))]) (pc := 1014) X dL_isRefused_1014 7 rfl rfl (by decide) [1, 2, 3, 4, 5, 6, 7, 0] rfl ?_
      refine r_goto (tgt := 847) (pc := 1017) X dL_isRefused_1017 (by decide) ?_
      exact hK847 hc hf
set_option maxHeartbeats 1000000 in
theorem c_f_L_isRefused_b931 {F Z : Nat} {c0 : Nat} {Γ : Ga} {D : DD} {B : Nat} {r : Int32} {s' : St} (X : Cx Γ RL cL_isRefused 13 D B (RMg Z c0 804 16500)) (M : RLe (RMg Z c0 804 16500) Z 0 0 c0 804 16500) (Y : Xy Γ B) (hr : (Gme Γ).sig.returnType = (some .boolean)) {K847 : St → Int32 → Int32 → Int64 → Int32 → Int32 → Option (Int32 × St)} (hK847 : ∀ {s : St} {l3 : Int32} {l4 : Int32} {l9 : Int64} {l11 : Int32} {l12 : Int32}, Hc c0 Z s → K847 s l3 l4 l9 l11 l12 = some (r, s') → V Γ D B true 13 (QX Γ D B true s' (.inl (some (.int r))) (64 * (ct s' - c0)) (768 * (ct s' - c0))) (kg 0 c0 s) (ng 0 c0 s) s 847 [(0, .ref (B + 0)), (1, .ref (B + 42)), (2, .ref (B + 39)), (3, .int l3), (4, .int l4), (9, .long l9), (11, .int l11), (12, .int l12)] []) {s : St} {l3 : Int32} {l4 : Int32} {l9 : Int64} {l12 : Int32} {t1 : Int32} {t2 : Int32} {t3 : Int32} {t4 : Int32} (hc : Hc c0 Z s) (hf : f_L_isRefused_b931 F Z K847 s l3 l4 l9 l12 t1 t2 t3 t4 = some (r, s')) : V Γ D B true 13 (QX Γ D B true s' (.inl (some (.int r))) (64 * (ct s' - c0)) (768 * (ct s' - c0))) (kg 0 c0 s) (ng 0 c0 s) s 931 [(0, .ref (B + 0)), (1, .ref (B + 42)), (2, .ref (B + 39)), (3, .int l3), (4, .int l4), (9, .long l9), (12, .int l12)] [.int t4, .int t3, .int t2, .int t1, .ref (B + 0)] := by
  unfold f_L_isRefused_b931 at hf
  refine r_iconst (v := 0) (pc := 931) X dL_isRefused_931 (by decide) ?_
  refine bnd hf (fun x42 h42 hf => ?_)
  refine ifo hf (fun hz hf => ?_)
  refine y_callWSi (As := [.ref (B + 0), .int t1, .int t2, .int t3, .int t4, .int 0]) (st := []) (pc := 932) X M Y hc (c_f_L_act h42 hc.2) rfl w_437 w_438 w_35 w_439 hdS_L_act (by decide) hz (Nat.le_of_ble_eq_true rfl) dL_isRefused_932 rfl (fun hc => ?_)
  refine r_sipush (v := -1242) (pc := 935) X dL_isRefused_935 (by decide) ?_
  refine b_icmp_ne (tgt := 1011) (pc := 938) X dL_isRefused_938 (by decide) hf (fun hf => ?_) (fun hf => ?_)
  · refine r_aload_n (x := some 42) (pc := 941) X dL_isRefused_941 1 rfl ?_
    refine r_bipush (v := 12) (pc := 942) X dL_isRefused_942 (by decide) ?_
    refine r_iload (pc := 944) X dL_isRefused_944 6 rfl ?_
    refine r_imul (pc := 946) X dL_isRefused_946 ?_
    refine r_iconst (v := 3) (pc := 947) X dL_isRefused_947 (by decide) ?_
    refine r_iadd (pc := 948) X dL_isRefused_948 ?_
    refine b_iald (pc := 949) X ce_42 dL_isRefused_949 hf (fun j43 hf => ?_)
    refine b_if_eq (tgt := 970) (pc := 950) X dL_isRefused_950 (by decide) hf (fun hf => ?_) (fun hf => ?_)
    · exact c_f_L_isRefused_b970 X M Y hr hK847 hc hf
    · refine r_aload_n (x := some 0) (pc := 953) X dL_isRefused_953 0 rfl ?_
      refine r_bipush (v := 6) (pc := 954) X dL_isRefused_954 (by decide) ?_
      refine r_iload (pc := 956) X dL_isRefused_956 6 rfl ?_
      refine r_iconst (v := 0) (pc := 958) X dL_isRefused_958 (by decide) ?_
      refine r_iconst (v := 0) (pc := 959) X dL_isRefused_959 (by decide) ?_
      refine r_iconst (v := 0) (pc := 960) X dL_isRefused_960 (by decide) ?_
      refine bnd hf (fun x48 h48 hf => ?_)
      refine ifo hf (fun hz hf => ?_)
      refine y_callWSi (As := [.ref (B + 0), .int 6, .int l12, .int 0, .int 0, .int 0]) (st := []) (pc := 961) X M Y hc (c_f_L_act h48 hc.2) rfl w_437 w_438 w_35 w_439 hdS_L_act (by decide) hz (Nat.le_of_ble_eq_true rfl) dL_isRefused_961 rfl (fun hc => ?_)
      refine r_sipush (v := -1243) (pc := 964) X dL_isRefused_964 (by decide) ?_
      refine b_icmp_ne (tgt := 1011) (pc := 967) X dL_isRefused_967 (by decide) hf (fun hf => ?_) (fun hf => ?_)
      · exact c_f_L_isRefused_b970 X M Y hr hK847 hc hf
      · refine r_iconst (v := 0) (pc := 1011) X dL_isRefused_1011 (by decide) ?_
        refine r_istore (pc := 1012) (lv' := [(0, .ref (B + 0)), (1, .ref (B + 42)), (2, .ref (B + 39)), (3, .int l3), (4, .int l4), (9, .long l9), (11, .int 0), (12, .int l12)]) X dL_isRefused_1012 (by decide) [1, 2, 3, 4, 5, 6, 0, 7] rfl ?_
        refine r_iinc (v := l12 + 1) (lv' := [(0, .ref (B + 0)), (1, .ref (B + 42)), (2, .ref (B + 39)), (3, .int l3), (4, .int l4), (9, .long l9), (11, .int 0), (12, .int (l12 + 1))]) (pc := 1014) X dL_isRefused_1014 7 rfl rfl (by decide) [1, 2, 3, 4, 5, 6, 7, 0] rfl ?_
        refine r_goto (tgt := 847) (pc := 1017) X dL_isRefused_1017 (by decide) ?_
        exact hK847 hc hf
  · refine r_iconst (v := 0) (pc := 1011) X dL_isRefused_1011 (by decide) ?_
    refine r_istore (pc := 1012) (lv' := [(0, .ref (B + 0)), (1, .ref (B + 42)), (2, .ref (B + 39)), (3, .int l3), (4, .int l4), (9, .long l9), (11, .int 0), (12, .int l12)]) X dL_isRefused_1012 (by decide) [1, 2, 3, 4, 5, 6, 0, 7] rfl ?_
    refine r_iinc (v := l12 + 1) (lv' := [(0, .ref (B + 0)), (1, .ref (B + 42)), (2, .ref (B + 39)), (3, .int l3), (4, .int l4), (9, .long l9), (11, .int 0), (12, .int (l12 + 1))]) (pc := 1014) X dL_isRefused_1014 7 rfl rfl (by decide) [1, 2, 3, 4, 5, 6, 7, 0] rfl ?_
    refine r_goto (tgt := 847) (pc := 1017) X dL_isRefused_1017 (by decide) ?_
    exact hK847 hc hf
set_option maxHeartbeats 1000000 in
theorem c_f_L_isRefused_b885 {F Z : Nat} {c0 : Nat} {Γ : Ga} {D : DD} {B : Nat} {r : Int32} {s' : St} (X : Cx Γ RL cL_isRefused 13 D B (RMg Z c0 804 16500)) (M : RLe (RMg Z c0 804 16500) Z 0 0 c0 804 16500) (Y : Xy Γ B) (hr : (Gme Γ).sig.returnType = (some .boolean)) {K847 : St → Int32 → Int32 → Int64 → Int32 → Int32 → Option (Int32 × St)} (hK847 : ∀ {s : St} {l3 : Int32} {l4 : Int32} {l9 : Int64} {l11 : Int32} {l12 : Int32}, Hc c0 Z s → K847 s l3 l4 l9 l11 l12 = some (r, s') → V Γ D B true 13 (QX Γ D B true s' (.inl (some (.int r))) (64 * (ct s' - c0)) (768 * (ct s' - c0))) (kg 0 c0 s) (ng 0 c0 s) s 847 [(0, .ref (B + 0)), (1, .ref (B + 42)), (2, .ref (B + 39)), (3, .int l3), (4, .int l4), (9, .long l9), (11, .int l11), (12, .int l12)] []) {s : St} {l3 : Int32} {l4 : Int32} {l9 : Int64} {l12 : Int32} {t1 : Int32} {t2 : Int32} {t3 : Int32} (hc : Hc c0 Z s) (hf : f_L_isRefused_b885 F Z K847 s l3 l4 l9 l12 t1 t2 t3 = some (r, s')) : V Γ D B true 13 (QX Γ D B true s' (.inl (some (.int r))) (64 * (ct s' - c0)) (768 * (ct s' - c0))) (kg 0 c0 s) (ng 0 c0 s) s 885 [(0, .ref (B + 0)), (1, .ref (B + 42)), (2, .ref (B + 39)), (3, .int l3), (4, .int l4), (9, .long l9), (12, .int l12)] [.int t3, .int t2, .int t1, .ref (B + 0)] := by
  unfold f_L_isRefused_b885 at hf
  refine r_sipush (v := 1000) (pc := 885) X dL_isRefused_885 (by decide) ?_
  refine r_iconst (v := 0) (pc := 888) X dL_isRefused_888 (by decide) ?_
  refine bnd hf (fun x39 h39 hf => ?_)
  refine ifo hf (fun hz hf => ?_)
  refine y_callWSi (As := [.ref (B + 0), .int t1, .int t2, .int t3, .int 1000, .int 0]) (st := []) (pc := 889) X M Y hc (c_f_L_act h39 hc.2) rfl w_437 w_438 w_35 w_439 hdS_L_act (by decide) hz (Nat.le_of_ble_eq_true rfl) dL_isRefused_889 rfl (fun hc => ?_)
  refine r_sipush (v := -1242) (pc := 892) X dL_isRefused_892 (by decide) ?_
  refine b_icmp_ne (tgt := 1011) (pc := 895) X dL_isRefused_895 (by decide) hf (fun hf => ?_) (fun hf => ?_)
  · refine r_aload_n (x := some 0) (pc := 898) X dL_isRefused_898 0 rfl ?_
    refine r_bipush (v := 7) (pc := 899) X dL_isRefused_899 (by decide) ?_
    refine r_iload (pc := 901) X dL_isRefused_901 6 rfl ?_
    refine r_aload_n (x := some 0) (pc := 903) X dL_isRefused_903 0 rfl ?_
    refine bnd hf (fun x40 h40 hf => ?_)
    refine y_callVi (As := []) (st := [.int l12, .int 7, .ref (B + 0)]) (pc := 904) X M hc (c_f_P_now h40) rfl w_317 w_318 w_319 w_36 w_320 hdV_X10_now (Rc.s rfl ce_0) (by decide) (Nat.le_of_ble_eq_true rfl) dL_isRefused_904 rfl hf (fun s41 hc hf => ?_)
    refine r_iconst (v := 2) (pc := 907) X dL_isRefused_907 (by decide) ?_
    refine r_iadd (pc := 908) X dL_isRefused_908 ?_
    refine r_iload (pc := 909) X dL_isRefused_909 4 rfl ?_
    refine b_if_eq (tgt := 928) (pc := 911) X dL_isRefused_911 (by decide) hf (fun hf => ?_) (fun hf => ?_)
    · refine r_sipush (v := 1001) (pc := 928) X dL_isRefused_928 (by decide) ?_
      exact c_f_L_isRefused_b931 X M Y hr hK847 hc hf
    · refine r_aload_n (x := some 0) (pc := 914) X dL_isRefused_914 0 rfl ?_
      refine bnd hf (fun x49 h49 hf => ?_)
      refine y_callVi (As := []) (st := [.int (x40.1 + 2), .int l12, .int 7, .ref (B + 0)]) (pc := 915) X M hc (c_f_P_now h49) rfl w_317 w_318 w_319 w_36 w_320 hdV_X10_now (Rc.s rfl ce_0) (by decide) (Nat.le_of_ble_eq_true rfl) dL_isRefused_915 rfl hf (fun s50 hc hf => ?_)
      refine r_iconst (v := 1) (pc := 918) X dL_isRefused_918 (by decide) ?_
      refine r_iadd (pc := 919) X dL_isRefused_919 ?_
      refine r_iload_n (pc := 920) X dL_isRefused_920 3 rfl ?_
      refine r_bipush (v := 30) (pc := 921) X dL_isRefused_921 (by decide) ?_
      refine r_irem (pc := 923) X dL_isRefused_923 (by decide) ?_
      refine r_isub (pc := 924) X dL_isRefused_924 ?_
      refine r_goto (tgt := 931) (pc := 925) X dL_isRefused_925 (by decide) ?_
      exact c_f_L_isRefused_b931 X M Y hr hK847 hc hf
  · refine r_iconst (v := 0) (pc := 1011) X dL_isRefused_1011 (by decide) ?_
    refine r_istore (pc := 1012) (lv' := [(0, .ref (B + 0)), (1, .ref (B + 42)), (2, .ref (B + 39)), (3, .int l3), (4, .int l4), (9, .long l9), (11, .int 0), (12, .int l12)]) X dL_isRefused_1012 (by decide) [1, 2, 3, 4, 5, 6, 0, 7] rfl ?_
    refine r_iinc (v := l12 + 1) (lv' := [(0, .ref (B + 0)), (1, .ref (B + 42)), (2, .ref (B + 39)), (3, .int l3), (4, .int l4), (9, .long l9), (11, .int 0), (12, .int (l12 + 1))]) (pc := 1014) X dL_isRefused_1014 7 rfl rfl (by decide) [1, 2, 3, 4, 5, 6, 7, 0] rfl ?_
    refine r_goto (tgt := 847) (pc := 1017) X dL_isRefused_1017 (by decide) ?_
    exact hK847 hc hf
set_option maxHeartbeats 1000000 in
theorem c_f_L_isRefused_b847 {F Z : Nat} {c0 : Nat} {Γ : Ga} {D : DD} {B : Nat} {r : Int32} {s' : St} (X : Cx Γ RL cL_isRefused 13 D B (RMg Z c0 804 16500)) (M : RLe (RMg Z c0 804 16500) Z 0 0 c0 804 16500) (Y : Xy Γ B) (hr : (Gme Γ).sig.returnType = (some .boolean)) : ∀ (n : Nat) {s : St} {l3 : Int32} {l4 : Int32} {l9 : Int64} {l11 : Int32} {l12 : Int32}, Hc c0 Z s → f_L_isRefused_b847 F Z n s l3 l4 l9 l11 l12 = some (r, s') → V Γ D B true 13 (QX Γ D B true s' (.inl (some (.int r))) (64 * (ct s' - c0)) (768 * (ct s' - c0))) (kg 0 c0 s) (ng 0 c0 s) s 847 [(0, .ref (B + 0)), (1, .ref (B + 42)), (2, .ref (B + 39)), (3, .int l3), (4, .int l4), (9, .long l9), (11, .int l11), (12, .int l12)] [] := by
  intro n
  induction n with
  | zero => intro s l3 l4 l9 l11 l12 hc hf; rw [f_L_isRefused_b847] at hf; cases hf
  | succ n ih =>
    intro s l3 l4 l9 l11 l12 hc hf
    rw [f_L_isRefused_b847] at hf
    refine r_iload (pc := 847) X dL_isRefused_847 7 rfl ?_
    refine r_aload_n (x := some 39) (pc := 849) X dL_isRefused_849 2 rfl ?_
    refine r_iconst (v := 1) (pc := 850) X dL_isRefused_850 (by decide) ?_
    refine b_iald (pc := 851) X ce_39 dL_isRefused_851 hf (fun j37 hf => ?_)
    refine b_icmp_ge (tgt := 1020) (pc := 852) X dL_isRefused_852 (by decide) hf (fun hf => ?_) (fun hf => ?_)
    · refine r_forget (lv' := [(0, .ref (B + 0)), (2, .ref (B + 39)), (9, .long l9), (11, .int l11)]) [0, 2, 5, 6] rfl ?_
      exact c_f_L_isRefused_b1020 X M Y hr hc hf
    · refine r_iload (pc := 855) X dL_isRefused_855 6 rfl ?_
      refine b_if_eq (tgt := 1020) (pc := 857) X dL_isRefused_857 (by decide) hf (fun hf => ?_) (fun hf => ?_)
      · refine r_forget (lv' := [(0, .ref (B + 0)), (2, .ref (B + 39)), (9, .long l9), (11, .int l11)]) [0, 2, 5, 6] rfl ?_
        exact c_f_L_isRefused_b1020 X M Y hr hc hf
      · refine r_aload_n (x := some 0) (pc := 860) X dL_isRefused_860 0 rfl ?_
        refine r_bipush (v := 7) (pc := 861) X dL_isRefused_861 (by decide) ?_
        refine r_iload (pc := 863) X dL_isRefused_863 7 rfl ?_
        refine r_iload (pc := 865) X dL_isRefused_865 4 rfl ?_
        refine b_if_eq (tgt := 882) (pc := 867) X dL_isRefused_867 (by decide) hf (fun hf => ?_) (fun hf => ?_)
        · refine r_sipush (v := 1001) (pc := 882) X dL_isRefused_882 (by decide) ?_
          refine r_forget (lv' := [(0, .ref (B + 0)), (1, .ref (B + 42)), (2, .ref (B + 39)), (3, .int l3), (4, .int l4), (9, .long l9), (12, .int l12)]) [0, 1, 2, 3, 4, 5, 7] rfl ?_
          exact c_f_L_isRefused_b885 X M Y hr (fun hc hf => ih hc hf) hc hf
        · refine r_aload_n (x := some 0) (pc := 870) X dL_isRefused_870 0 rfl ?_
          refine bnd hf (fun x51 h51 hf => ?_)
          refine y_callVi (As := []) (st := [.int l12, .int 7, .ref (B + 0)]) (pc := 871) X M hc (c_f_P_now h51) rfl w_317 w_318 w_319 w_36 w_320 hdV_X10_now (Rc.s rfl ce_0) (by decide) (Nat.le_of_ble_eq_true rfl) dL_isRefused_871 rfl hf (fun s52 hc hf => ?_)
          refine r_iload_n (pc := 874) X dL_isRefused_874 3 rfl ?_
          refine r_bipush (v := 30) (pc := 875) X dL_isRefused_875 (by decide) ?_
          refine r_irem (pc := 877) X dL_isRefused_877 (by decide) ?_
          refine r_isub (pc := 878) X dL_isRefused_878 ?_
          refine r_goto (tgt := 885) (pc := 879) X dL_isRefused_879 (by decide) ?_
          refine r_forget (lv' := [(0, .ref (B + 0)), (1, .ref (B + 42)), (2, .ref (B + 39)), (3, .int l3), (4, .int l4), (9, .long l9), (12, .int l12)]) [0, 1, 2, 3, 4, 5, 7] rfl ?_
          exact c_f_L_isRefused_b885 X M Y hr (fun hc hf => ih hc hf) hc hf
set_option maxHeartbeats 1000000 in
theorem c_f_L_isRefused_b816 {F Z : Nat} {c0 : Nat} {Γ : Ga} {D : DD} {B : Nat} {r : Int32} {s' : St} (X : Cx Γ RL cL_isRefused 13 D B (RMg Z c0 804 16500)) (M : RLe (RMg Z c0 804 16500) Z 0 0 c0 804 16500) (Y : Xy Γ B) (hr : (Gme Γ).sig.returnType = (some .boolean)) {K674 : St → Int32 → Int32 → Int32 → Int32 → Int64 → Int32 → Int32 → Option (Int32 × St)} (hK674 : ∀ {s : St} {l3 : Int32} {l4 : Int32} {l5 : Int32} {l8 : Int32} {l9 : Int64} {l11 : Int32} {l12 : Int32}, Hc c0 Z s → K674 s l3 l4 l5 l8 l9 l11 l12 = some (r, s') → V Γ D B true 13 (QX Γ D B true s' (.inl (some (.int r))) (64 * (ct s' - c0)) (768 * (ct s' - c0))) (kg 0 c0 s) (ng 0 c0 s) s 674 [(0, .ref (B + 0)), (1, .ref (B + 42)), (2, .ref (B + 39)), (3, .int l3), (4, .int l4), (5, .int l5), (8, .int l8), (9, .long l9), (11, .int l11), (12, .int l12)] []) {s : St} {l3 : Int32} {l4 : Int32} {l5 : Int32} {l8 : Int32} {l9 : Int64} {l12 : Int32} (hc : Hc c0 Z s) (hf : f_L_isRefused_b816 F Z K674 s l3 l4 l5 l8 l9 l12 = some (r, s')) : V Γ D B true 13 (QX Γ D B true s' (.inl (some (.int r))) (64 * (ct s' - c0)) (768 * (ct s' - c0))) (kg 0 c0 s) (ng 0 c0 s) s 816 [(0, .ref (B + 0)), (1, .ref (B + 42)), (2, .ref (B + 39)), (3, .int l3), (4, .int l4), (5, .int l5), (8, .int l8), (9, .long l9), (12, .int l12)] [] := by
  unfold f_L_isRefused_b816 at hf
  refine r_aload_n (x := some 0) (pc := 816) X dL_isRefused_816 0 rfl ?_
  refine r_iconst (v := 3) (pc := 817) X dL_isRefused_817 (by decide) ?_
  refine r_iload (pc := 818) X dL_isRefused_818 8 rfl ?_
  refine r_iload (pc := 820) X dL_isRefused_820 5 rfl ?_
  refine bnd hf (fun x58 h58 hf => ?_)
  refine ifo hf (fun hz hf => ?_)
  refine y_callWSi (As := [.ref (B + 0), .int 3, .int l12, .int l5]) (st := []) (pc := 822) X M Y hc (c_f_L_of h58 hc.2) rfl w_797 w_798 w_35 w_799 hdS_L_of (by decide) hz (Nat.le_of_ble_eq_true rfl) dL_isRefused_822 rfl (fun hc => ?_)
  refine r_sipush (v := -1241) (pc := 825) X dL_isRefused_825 (by decide) ?_
  refine b_icmp_ne (tgt := 835) (pc := 828) X dL_isRefused_828 (by decide) hf (fun hf => ?_) (fun hf => ?_)
  · refine r_iconst (v := 1) (pc := 831) X dL_isRefused_831 (by decide) ?_
    refine r_goto (tgt := 836) (pc := 832) X dL_isRefused_832 (by decide) ?_
    refine r_istore (pc := 836) (lv' := [(0, .ref (B + 0)), (1, .ref (B + 42)), (2, .ref (B + 39)), (3, .int l3), (4, .int l4), (5, .int l5), (8, .int l8), (9, .long l9), (11, .int 1), (12, .int l12)]) X dL_isRefused_836 (by decide) [1, 2, 3, 4, 5, 6, 7, 8, 0, 9] rfl ?_
    refine r_iinc (v := l12 + 1) (lv' := [(0, .ref (B + 0)), (1, .ref (B + 42)), (2, .ref (B + 39)), (3, .int l3), (4, .int l4), (5, .int l5), (8, .int l8), (9, .long l9), (11, .int 1), (12, .int (l12 + 1))]) (pc := 838) X dL_isRefused_838 9 rfl rfl (by decide) [1, 2, 3, 4, 5, 6, 7, 8, 9, 0] rfl ?_
    refine r_goto (tgt := 674) (pc := 841) X dL_isRefused_841 (by decide) ?_
    exact hK674 hc hf
  · refine r_iconst (v := 0) (pc := 835) X dL_isRefused_835 (by decide) ?_
    refine r_istore (pc := 836) (lv' := [(0, .ref (B + 0)), (1, .ref (B + 42)), (2, .ref (B + 39)), (3, .int l3), (4, .int l4), (5, .int l5), (8, .int l8), (9, .long l9), (11, .int 0), (12, .int l12)]) X dL_isRefused_836 (by decide) [1, 2, 3, 4, 5, 6, 7, 8, 0, 9] rfl ?_
    refine r_iinc (v := l12 + 1) (lv' := [(0, .ref (B + 0)), (1, .ref (B + 42)), (2, .ref (B + 39)), (3, .int l3), (4, .int l4), (5, .int l5), (8, .int l8), (9, .long l9), (11, .int 0), (12, .int (l12 + 1))]) (pc := 838) X dL_isRefused_838 9 rfl rfl (by decide) [1, 2, 3, 4, 5, 6, 7, 8, 9, 0] rfl ?_
    refine r_goto (tgt := 674) (pc := 841) X dL_isRefused_841 (by decide) ?_
    exact hK674 hc hf
set_option maxHeartbeats 1000000 in
theorem c_f_L_isRefused_b800 {F Z : Nat} {c0 : Nat} {Γ : Ga} {D : DD} {B : Nat} {r : Int32} {s' : St} (X : Cx Γ RL cL_isRefused 13 D B (RMg Z c0 804 16500)) (M : RLe (RMg Z c0 804 16500) Z 0 0 c0 804 16500) (Y : Xy Γ B) (hr : (Gme Γ).sig.returnType = (some .boolean)) {K674 : St → Int32 → Int32 → Int32 → Int32 → Int64 → Int32 → Int32 → Option (Int32 × St)} (hK674 : ∀ {s : St} {l3 : Int32} {l4 : Int32} {l5 : Int32} {l8 : Int32} {l9 : Int64} {l11 : Int32} {l12 : Int32}, Hc c0 Z s → K674 s l3 l4 l5 l8 l9 l11 l12 = some (r, s') → V Γ D B true 13 (QX Γ D B true s' (.inl (some (.int r))) (64 * (ct s' - c0)) (768 * (ct s' - c0))) (kg 0 c0 s) (ng 0 c0 s) s 674 [(0, .ref (B + 0)), (1, .ref (B + 42)), (2, .ref (B + 39)), (3, .int l3), (4, .int l4), (5, .int l5), (8, .int l8), (9, .long l9), (11, .int l11), (12, .int l12)] []) {s : St} {l3 : Int32} {l4 : Int32} {l5 : Int32} {l8 : Int32} {l9 : Int64} {l12 : Int32} (hc : Hc c0 Z s) (hf : f_L_isRefused_b800 F Z K674 s l3 l4 l5 l8 l9 l12 = some (r, s')) : V Γ D B true 13 (QX Γ D B true s' (.inl (some (.int r))) (64 * (ct s' - c0)) (768 * (ct s' - c0))) (kg 0 c0 s) (ng 0 c0 s) s 800 [(0, .ref (B + 0)), (1, .ref (B + 42)), (2, .ref (B + 39)), (3, .int l3), (4, .int l4), (5, .int l5), (8, .int l8), (9, .long l9), (12, .int l12)] [] := by
  unfold f_L_isRefused_b800 at hf
  refine r_aload_n (x := some 0) (pc := 800) X dL_isRefused_800 0 rfl ?_
  refine r_iconst (v := 5) (pc := 801) X dL_isRefused_801 (by decide) ?_
  refine r_iload (pc := 802) X dL_isRefused_802 8 rfl ?_
  refine r_iconst (v := 5) (pc := 804) X dL_isRefused_804 (by decide) ?_
  refine r_iconst (v := 5) (pc := 805) X dL_isRefused_805 (by decide) ?_
  refine r_iconst (v := 0) (pc := 806) X dL_isRefused_806 (by decide) ?_
  refine bnd hf (fun x57 h57 hf => ?_)
  refine ifo hf (fun hz hf => ?_)
  refine y_callWSi (As := [.ref (B + 0), .int 5, .int l12, .int 5, .int 5, .int 0]) (st := []) (pc := 807) X M Y hc (c_f_L_act h57 hc.2) rfl w_437 w_438 w_35 w_439 hdS_L_act (by decide) hz (Nat.le_of_ble_eq_true rfl) dL_isRefused_807 rfl (fun hc => ?_)
  refine r_sipush (v := -1243) (pc := 810) X dL_isRefused_810 (by decide) ?_
  refine b_icmp_ne (tgt := 835) (pc := 813) X dL_isRefused_813 (by decide) hf (fun hf => ?_) (fun hf => ?_)
  · exact c_f_L_isRefused_b816 X M Y hr hK674 hc hf
  · refine r_iconst (v := 0) (pc := 835) X dL_isRefused_835 (by decide) ?_
    refine r_istore (pc := 836) (lv' := [(0, .ref (B + 0)), (1, .ref (B + 42)), (2, .ref (B + 39)), (3, .int l3), (4, .int l4), (5, .int l5), (8, .int l8), (9, .long l9), (11, .int 0), (12, .int l12)]) X dL_isRefused_836 (by decide) [1, 2, 3, 4, 5, 6, 7, 8, 0, 9] rfl ?_
    refine r_iinc (v := l12 + 1) (lv' := [(0, .ref (B + 0)), (1, .ref (B + 42)), (2, .ref (B + 39)), (3, .int l3), (4, .int l4), (5, .int l5), (8, .int l8), (9, .long l9), (11, .int 0), (12, .int (l12 + 1))]) (pc := 838) X dL_isRefused_838 9 rfl rfl (by decide) [1, 2, 3, 4, 5, 6, 7, 8, 9, 0] rfl ?_
    refine r_goto (tgt := 674) (pc := 841) X dL_isRefused_841 (by decide) ?_
    exact hK674 hc hf
set_option maxHeartbeats 1000000 in
theorem c_f_L_isRefused_b776 {F Z : Nat} {c0 : Nat} {Γ : Ga} {D : DD} {B : Nat} {r : Int32} {s' : St} (X : Cx Γ RL cL_isRefused 13 D B (RMg Z c0 804 16500)) (M : RLe (RMg Z c0 804 16500) Z 0 0 c0 804 16500) (Y : Xy Γ B) (hr : (Gme Γ).sig.returnType = (some .boolean)) {K674 : St → Int32 → Int32 → Int32 → Int32 → Int64 → Int32 → Int32 → Option (Int32 × St)} (hK674 : ∀ {s : St} {l3 : Int32} {l4 : Int32} {l5 : Int32} {l8 : Int32} {l9 : Int64} {l11 : Int32} {l12 : Int32}, Hc c0 Z s → K674 s l3 l4 l5 l8 l9 l11 l12 = some (r, s') → V Γ D B true 13 (QX Γ D B true s' (.inl (some (.int r))) (64 * (ct s' - c0)) (768 * (ct s' - c0))) (kg 0 c0 s) (ng 0 c0 s) s 674 [(0, .ref (B + 0)), (1, .ref (B + 42)), (2, .ref (B + 39)), (3, .int l3), (4, .int l4), (5, .int l5), (8, .int l8), (9, .long l9), (11, .int l11), (12, .int l12)] []) {s : St} {l3 : Int32} {l4 : Int32} {l5 : Int32} {l8 : Int32} {l9 : Int64} {l12 : Int32} {t1 : Int32} {t2 : Int32} {t3 : Int32} {t4 : Int32} (hc : Hc c0 Z s) (hf : f_L_isRefused_b776 F Z K674 s l3 l4 l5 l8 l9 l12 t1 t2 t3 t4 = some (r, s')) : V Γ D B true 13 (QX Γ D B true s' (.inl (some (.int r))) (64 * (ct s' - c0)) (768 * (ct s' - c0))) (kg 0 c0 s) (ng 0 c0 s) s 776 [(0, .ref (B + 0)), (1, .ref (B + 42)), (2, .ref (B + 39)), (3, .int l3), (4, .int l4), (5, .int l5), (8, .int l8), (9, .long l9), (12, .int l12)] [.int t4, .int t3, .int t2, .int t1, .ref (B + 0)] := by
  unfold f_L_isRefused_b776 at hf
  refine r_iconst (v := 0) (pc := 776) X dL_isRefused_776 (by decide) ?_
  refine bnd hf (fun x55 h55 hf => ?_)
  refine ifo hf (fun hz hf => ?_)
  refine y_callWSi (As := [.ref (B + 0), .int t1, .int t2, .int t3, .int t4, .int 0]) (st := []) (pc := 777) X M Y hc (c_f_L_act h55 hc.2) rfl w_437 w_438 w_35 w_439 hdS_L_act (by decide) hz (Nat.le_of_ble_eq_true rfl) dL_isRefused_777 rfl (fun hc => ?_)
  refine r_sipush (v := -1242) (pc := 780) X dL_isRefused_780 (by decide) ?_
  refine b_icmp_ne (tgt := 835) (pc := 783) X dL_isRefused_783 (by decide) hf (fun hf => ?_) (fun hf => ?_)
  · refine r_aload_n (x := some 39) (pc := 786) X dL_isRefused_786 2 rfl ?_
    refine r_iconst (v := 1) (pc := 787) X dL_isRefused_787 (by decide) ?_
    refine b_iald (pc := 788) X ce_39 dL_isRefused_788 hf (fun j56 hf => ?_)
    refine r_iconst (v := 4) (pc := 789) X dL_isRefused_789 (by decide) ?_
    refine b_icmp_ge (tgt := 800) (pc := 790) X dL_isRefused_790 (by decide) hf (fun hf => ?_) (fun hf => ?_)
    · exact c_f_L_isRefused_b800 X M Y hr hK674 hc hf
    · refine r_aload_n (x := some 0) (pc := 793) X dL_isRefused_793 0 rfl ?_
      refine bnd hf (fun x59 h59 hf => ?_)
      refine bnd hf (fun v60 h59v hf => ?_)
      refine y_callXVi (As := []) (st := []) (pc := 794) X M Y hc (qd_run (ou := ouI) (fun z x h => c_f_P_errorAt h) h59) rfl w_876 w_877 w_878 w_36 w_879 hdV_X10_errorAt (Rc.s rfl ce_0) (by decide) (Nat.le_of_ble_eq_true rfl) dL_isRefused_794 rfl h59v (fun hc => ?_)
      refine b_if_lt (tgt := 816) (pc := 797) X dL_isRefused_797 (by decide) hf (fun hf => ?_) (fun hf => ?_)
      · exact c_f_L_isRefused_b816 X M Y hr hK674 hc hf
      · exact c_f_L_isRefused_b800 X M Y hr hK674 hc hf
  · refine r_iconst (v := 0) (pc := 835) X dL_isRefused_835 (by decide) ?_
    refine r_istore (pc := 836) (lv' := [(0, .ref (B + 0)), (1, .ref (B + 42)), (2, .ref (B + 39)), (3, .int l3), (4, .int l4), (5, .int l5), (8, .int l8), (9, .long l9), (11, .int 0), (12, .int l12)]) X dL_isRefused_836 (by decide) [1, 2, 3, 4, 5, 6, 7, 8, 0, 9] rfl ?_
    refine r_iinc (v := l12 + 1) (lv' := [(0, .ref (B + 0)), (1, .ref (B + 42)), (2, .ref (B + 39)), (3, .int l3), (4, .int l4), (5, .int l5), (8, .int l8), (9, .long l9), (11, .int 0), (12, .int (l12 + 1))]) (pc := 838) X dL_isRefused_838 9 rfl rfl (by decide) [1, 2, 3, 4, 5, 6, 7, 8, 9, 0] rfl ?_
    refine r_goto (tgt := 674) (pc := 841) X dL_isRefused_841 (by decide) ?_
    exact hK674 hc hf
set_option maxHeartbeats 1000000 in
theorem c_f_L_isRefused_b744 {F Z : Nat} {c0 : Nat} {Γ : Ga} {D : DD} {B : Nat} {r : Int32} {s' : St} (X : Cx Γ RL cL_isRefused 13 D B (RMg Z c0 804 16500)) (M : RLe (RMg Z c0 804 16500) Z 0 0 c0 804 16500) (Y : Xy Γ B) (hr : (Gme Γ).sig.returnType = (some .boolean)) {K674 : St → Int32 → Int32 → Int32 → Int32 → Int64 → Int32 → Int32 → Option (Int32 × St)} (hK674 : ∀ {s : St} {l3 : Int32} {l4 : Int32} {l5 : Int32} {l8 : Int32} {l9 : Int64} {l11 : Int32} {l12 : Int32}, Hc c0 Z s → K674 s l3 l4 l5 l8 l9 l11 l12 = some (r, s') → V Γ D B true 13 (QX Γ D B true s' (.inl (some (.int r))) (64 * (ct s' - c0)) (768 * (ct s' - c0))) (kg 0 c0 s) (ng 0 c0 s) s 674 [(0, .ref (B + 0)), (1, .ref (B + 42)), (2, .ref (B + 39)), (3, .int l3), (4, .int l4), (5, .int l5), (8, .int l8), (9, .long l9), (11, .int l11), (12, .int l12)] []) {s : St} {l3 : Int32} {l4 : Int32} {l5 : Int32} {l8 : Int32} {l9 : Int64} {l12 : Int32} {t1 : Int32} {t2 : Int32} {t3 : Int32} (hc : Hc c0 Z s) (hf : f_L_isRefused_b744 F Z K674 s l3 l4 l5 l8 l9 l12 t1 t2 t3 = some (r, s')) : V Γ D B true 13 (QX Γ D B true s' (.inl (some (.int r))) (64 * (ct s' - c0)) (768 * (ct s' - c0))) (kg 0 c0 s) (ng 0 c0 s) s 744 [(0, .ref (B + 0)), (1, .ref (B + 42)), (2, .ref (B + 39)), (3, .int l3), (4, .int l4), (5, .int l5), (8, .int l8), (9, .long l9), (12, .int l12)] [.int t3, .int t2, .int t1, .ref (B + 0)] := by
  unfold f_L_isRefused_b744 at hf
  refine r_iconst (v := 5) (pc := 744) X dL_isRefused_744 (by decide) ?_
  refine r_iconst (v := 0) (pc := 745) X dL_isRefused_745 (by decide) ?_
  refine bnd hf (fun x54 h54 hf => ?_)
  refine ifo hf (fun hz hf => ?_)
  refine y_callWSi (As := [.ref (B + 0), .int t1, .int t2, .int t3, .int 5, .int 0]) (st := []) (pc := 746) X M Y hc (c_f_L_act h54 hc.2) rfl w_437 w_438 w_35 w_439 hdS_L_act (by decide) hz (Nat.le_of_ble_eq_true rfl) dL_isRefused_746 rfl (fun hc => ?_)
  refine r_sipush (v := -1242) (pc := 749) X dL_isRefused_749 (by decide) ?_
  refine b_icmp_ne (tgt := 835) (pc := 752) X dL_isRefused_752 (by decide) hf (fun hf => ?_) (fun hf => ?_)
  · refine r_aload_n (x := some 0) (pc := 755) X dL_isRefused_755 0 rfl ?_
    refine r_iconst (v := 5) (pc := 756) X dL_isRefused_756 (by decide) ?_
    refine r_iload (pc := 757) X dL_isRefused_757 8 rfl ?_
    refine r_iconst (v := 5) (pc := 759) X dL_isRefused_759 (by decide) ?_
    refine r_iload (pc := 760) X dL_isRefused_760 4 rfl ?_
    refine b_if_eq (tgt := 774) (pc := 762) X dL_isRefused_762 (by decide) hf (fun hf => ?_) (fun hf => ?_)
    · refine r_bipush (v := 73) (pc := 774) X dL_isRefused_774 (by decide) ?_
      exact c_f_L_isRefused_b776 X M Y hr hK674 hc hf
    · refine r_iconst (v := -1) (pc := 765) X dL_isRefused_765 (by decide) ?_
      refine r_iload_n (pc := 766) X dL_isRefused_766 3 rfl ?_
      refine r_bipush (v := 30) (pc := 767) X dL_isRefused_767 (by decide) ?_
      refine r_irem (pc := 769) X dL_isRefused_769 (by decide) ?_
      refine r_isub (pc := 770) X dL_isRefused_770 ?_
      refine r_goto (tgt := 776) (pc := 771) X dL_isRefused_771 (by decide) ?_
      exact c_f_L_isRefused_b776 X M Y hr hK674 hc hf
  · refine r_iconst (v := 0) (pc := 835) X dL_isRefused_835 (by decide) ?_
    refine r_istore (pc := 836) (lv' := [(0, .ref (B + 0)), (1, .ref (B + 42)), (2, .ref (B + 39)), (3, .int l3), (4, .int l4), (5, .int l5), (8, .int l8), (9, .long l9), (11, .int 0), (12, .int l12)]) X dL_isRefused_836 (by decide) [1, 2, 3, 4, 5, 6, 7, 8, 0, 9] rfl ?_
    refine r_iinc (v := l12 + 1) (lv' := [(0, .ref (B + 0)), (1, .ref (B + 42)), (2, .ref (B + 39)), (3, .int l3), (4, .int l4), (5, .int l5), (8, .int l8), (9, .long l9), (11, .int 0), (12, .int (l12 + 1))]) (pc := 838) X dL_isRefused_838 9 rfl rfl (by decide) [1, 2, 3, 4, 5, 6, 7, 8, 9, 0] rfl ?_
    refine r_goto (tgt := 674) (pc := 841) X dL_isRefused_841 (by decide) ?_
    exact hK674 hc hf
set_option maxHeartbeats 1000000 in
theorem c_f_L_isRefused_b713 {F Z : Nat} {c0 : Nat} {Γ : Ga} {D : DD} {B : Nat} {r : Int32} {s' : St} (X : Cx Γ RL cL_isRefused 13 D B (RMg Z c0 804 16500)) (M : RLe (RMg Z c0 804 16500) Z 0 0 c0 804 16500) (Y : Xy Γ B) (hr : (Gme Γ).sig.returnType = (some .boolean)) {K674 : St → Int32 → Int32 → Int32 → Int32 → Int64 → Int32 → Int32 → Option (Int32 × St)} (hK674 : ∀ {s : St} {l3 : Int32} {l4 : Int32} {l5 : Int32} {l8 : Int32} {l9 : Int64} {l11 : Int32} {l12 : Int32}, Hc c0 Z s → K674 s l3 l4 l5 l8 l9 l11 l12 = some (r, s') → V Γ D B true 13 (QX Γ D B true s' (.inl (some (.int r))) (64 * (ct s' - c0)) (768 * (ct s' - c0))) (kg 0 c0 s) (ng 0 c0 s) s 674 [(0, .ref (B + 0)), (1, .ref (B + 42)), (2, .ref (B + 39)), (3, .int l3), (4, .int l4), (5, .int l5), (8, .int l8), (9, .long l9), (11, .int l11), (12, .int l12)] []) {s : St} {l3 : Int32} {l4 : Int32} {l5 : Int32} {l8 : Int32} {l9 : Int64} {l12 : Int32} {t1 : Int32} {t2 : Int32} {t3 : Int32} (hc : Hc c0 Z s) (hf : f_L_isRefused_b713 F Z K674 s l3 l4 l5 l8 l9 l12 t1 t2 t3 = some (r, s')) : V Γ D B true 13 (QX Γ D B true s' (.inl (some (.int r))) (64 * (ct s' - c0)) (768 * (ct s' - c0))) (kg 0 c0 s) (ng 0 c0 s) s 713 [(0, .ref (B + 0)), (1, .ref (B + 42)), (2, .ref (B + 39)), (3, .int l3), (4, .int l4), (5, .int l5), (8, .int l8), (9, .long l9), (12, .int l12)] [.int t3, .int t2, .int t1, .ref (B + 0)] := by
  unfold f_L_isRefused_b713 at hf
  refine r_iconst (v := 0) (pc := 713) X dL_isRefused_713 (by decide) ?_
  refine r_iconst (v := 0) (pc := 714) X dL_isRefused_714 (by decide) ?_
  refine bnd hf (fun x53 h53 hf => ?_)
  refine ifo hf (fun hz hf => ?_)
  refine y_callWSi (As := [.ref (B + 0), .int t1, .int t2, .int t3, .int 0, .int 0]) (st := []) (pc := 715) X M Y hc (c_f_L_act h53 hc.2) rfl w_437 w_438 w_35 w_439 hdS_L_act (by decide) hz (Nat.le_of_ble_eq_true rfl) dL_isRefused_715 rfl (fun hc => ?_)
  refine r_sipush (v := -1242) (pc := 718) X dL_isRefused_718 (by decide) ?_
  refine b_icmp_ne (tgt := 835) (pc := 721) X dL_isRefused_721 (by decide) hf (fun hf => ?_) (fun hf => ?_)
  · refine r_aload_n (x := some 0) (pc := 724) X dL_isRefused_724 0 rfl ?_
    refine r_iconst (v := 5) (pc := 725) X dL_isRefused_725 (by decide) ?_
    refine r_iload (pc := 726) X dL_isRefused_726 8 rfl ?_
    refine r_iload (pc := 728) X dL_isRefused_728 4 rfl ?_
    refine b_if_eq (tgt := 742) (pc := 730) X dL_isRefused_730 (by decide) hf (fun hf => ?_) (fun hf => ?_)
    · refine r_bipush (v := 73) (pc := 742) X dL_isRefused_742 (by decide) ?_
      exact c_f_L_isRefused_b744 X M Y hr hK674 hc hf
    · refine r_iconst (v := 0) (pc := 733) X dL_isRefused_733 (by decide) ?_
      refine r_iload_n (pc := 734) X dL_isRefused_734 3 rfl ?_
      refine r_bipush (v := 30) (pc := 735) X dL_isRefused_735 (by decide) ?_
      refine r_irem (pc := 737) X dL_isRefused_737 (by decide) ?_
      refine r_isub (pc := 738) X dL_isRefused_738 ?_
      refine r_goto (tgt := 744) (pc := 739) X dL_isRefused_739 (by decide) ?_
      exact c_f_L_isRefused_b744 X M Y hr hK674 hc hf
  · refine r_iconst (v := 0) (pc := 835) X dL_isRefused_835 (by decide) ?_
    refine r_istore (pc := 836) (lv' := [(0, .ref (B + 0)), (1, .ref (B + 42)), (2, .ref (B + 39)), (3, .int l3), (4, .int l4), (5, .int l5), (8, .int l8), (9, .long l9), (11, .int 0), (12, .int l12)]) X dL_isRefused_836 (by decide) [1, 2, 3, 4, 5, 6, 7, 8, 0, 9] rfl ?_
    refine r_iinc (v := l12 + 1) (lv' := [(0, .ref (B + 0)), (1, .ref (B + 42)), (2, .ref (B + 39)), (3, .int l3), (4, .int l4), (5, .int l5), (8, .int l8), (9, .long l9), (11, .int 0), (12, .int (l12 + 1))]) (pc := 838) X dL_isRefused_838 9 rfl rfl (by decide) [1, 2, 3, 4, 5, 6, 7, 8, 9, 0] rfl ?_
    refine r_goto (tgt := 674) (pc := 841) X dL_isRefused_841 (by decide) ?_
    exact hK674 hc hf
set_option maxHeartbeats 1000000 in
theorem c_f_L_isRefused_b674 {F Z : Nat} {c0 : Nat} {Γ : Ga} {D : DD} {B : Nat} {r : Int32} {s' : St} (X : Cx Γ RL cL_isRefused 13 D B (RMg Z c0 804 16500)) (M : RLe (RMg Z c0 804 16500) Z 0 0 c0 804 16500) (Y : Xy Γ B) (hr : (Gme Γ).sig.returnType = (some .boolean)) : ∀ (n : Nat) {s : St} {l3 : Int32} {l4 : Int32} {l5 : Int32} {l8 : Int32} {l9 : Int64} {l11 : Int32} {l12 : Int32}, Hc c0 Z s → f_L_isRefused_b674 F Z n s l3 l4 l5 l8 l9 l11 l12 = some (r, s') → V Γ D B true 13 (QX Γ D B true s' (.inl (some (.int r))) (64 * (ct s' - c0)) (768 * (ct s' - c0))) (kg 0 c0 s) (ng 0 c0 s) s 674 [(0, .ref (B + 0)), (1, .ref (B + 42)), (2, .ref (B + 39)), (3, .int l3), (4, .int l4), (5, .int l5), (8, .int l8), (9, .long l9), (11, .int l11), (12, .int l12)] [] := by
  intro n
  induction n with
  | zero => intro s l3 l4 l5 l8 l9 l11 l12 hc hf; rw [f_L_isRefused_b674] at hf; cases hf
  | succ n ih =>
    intro s l3 l4 l5 l8 l9 l11 l12 hc hf
    rw [f_L_isRefused_b674] at hf
    refine r_iload (pc := 674) X dL_isRefused_674 9 rfl ?_
    refine r_aload_n (x := some 39) (pc := 676) X dL_isRefused_676 2 rfl ?_
    refine r_iconst (v := 0) (pc := 677) X dL_isRefused_677 (by decide) ?_
    refine b_iald (pc := 678) X ce_39 dL_isRefused_678 hf (fun j36 hf => ?_)
    refine b_icmp_ge (tgt := 844) (pc := 679) X dL_isRefused_679 (by decide) hf (fun hf => ?_) (fun hf => ?_)
    · refine r_iconst (v := 0) (pc := 844) X dL_isRefused_844 (by decide) ?_
      refine r_istore (pc := 845) (lv' := [(0, .ref (B + 0)), (1, .ref (B + 42)), (2, .ref (B + 39)), (3, .int l3), (4, .int l4), (9, .long l9), (11, .int l11), (12, .int 0)]) X dL_isRefused_845 (by decide) [1, 2, 3, 4, 5, 8, 9, 0] rfl ?_
      exact c_f_L_isRefused_b847 X M Y hr _ hc hf
    · refine r_iload (pc := 682) X dL_isRefused_682 8 rfl ?_
      refine b_if_eq (tgt := 844) (pc := 684) X dL_isRefused_684 (by decide) hf (fun hf => ?_) (fun hf => ?_)
      · refine r_iconst (v := 0) (pc := 844) X dL_isRefused_844 (by decide) ?_
        refine r_istore (pc := 845) (lv' := [(0, .ref (B + 0)), (1, .ref (B + 42)), (2, .ref (B + 39)), (3, .int l3), (4, .int l4), (9, .long l9), (11, .int l11), (12, .int 0)]) X dL_isRefused_845 (by decide) [1, 2, 3, 4, 5, 8, 9, 0] rfl ?_
        exact c_f_L_isRefused_b847 X M Y hr _ hc hf
      · refine r_aload_n (x := some 0) (pc := 687) X dL_isRefused_687 0 rfl ?_
        refine r_iconst (v := 4) (pc := 688) X dL_isRefused_688 (by decide) ?_
        refine r_iload (pc := 689) X dL_isRefused_689 9 rfl ?_
        refine r_iload (pc := 691) X dL_isRefused_691 4 rfl ?_
        refine b_if_eq (tgt := 706) (pc := 693) X dL_isRefused_693 (by decide) hf (fun hf => ?_) (fun hf => ?_)
        · refine r_bipush (v := 126) (pc := 706) X dL_isRefused_706 (by decide) ?_
          refine r_iload_n (pc := 708) X dL_isRefused_708 3 rfl ?_
          refine r_bipush (v := 30) (pc := 709) X dL_isRefused_709 (by decide) ?_
          refine r_irem (pc := 711) X dL_isRefused_711 (by decide) ?_
          refine r_iadd (pc := 712) X dL_isRefused_712 ?_
          refine r_forget (lv' := [(0, .ref (B + 0)), (1, .ref (B + 42)), (2, .ref (B + 39)), (3, .int l3), (4, .int l4), (5, .int l5), (8, .int l8), (9, .long l9), (12, .int l12)]) [0, 1, 2, 3, 4, 5, 6, 7, 9] rfl ?_
          exact c_f_L_isRefused_b713 X M Y hr (fun hc hf => ih hc hf) hc hf
        · refine r_iload (pc := 696) X dL_isRefused_696 6 rfl ?_
          refine r_iload_n (pc := 698) X dL_isRefused_698 3 rfl ?_
          refine r_bipush (v := 30) (pc := 699) X dL_isRefused_699 (by decide) ?_
          refine r_irem (pc := 701) X dL_isRefused_701 (by decide) ?_
          refine r_isub (pc := 702) X dL_isRefused_702 ?_
          refine r_goto (tgt := 713) (pc := 703) X dL_isRefused_703 (by decide) ?_
          refine r_forget (lv' := [(0, .ref (B + 0)), (1, .ref (B + 42)), (2, .ref (B + 39)), (3, .int l3), (4, .int l4), (5, .int l5), (8, .int l8), (9, .long l9), (12, .int l12)]) [0, 1, 2, 3, 4, 5, 6, 7, 9] rfl ?_
          exact c_f_L_isRefused_b713 X M Y hr (fun hc hf => ih hc hf) hc hf
set_option maxHeartbeats 1000000 in
theorem c_f_L_isRefused_b648 {F Z : Nat} {c0 : Nat} {Γ : Ga} {D : DD} {B : Nat} {r : Int32} {s' : St} (X : Cx Γ RL cL_isRefused 13 D B (RMg Z c0 804 16500)) (M : RLe (RMg Z c0 804 16500) Z 0 0 c0 804 16500) (Y : Xy Γ B) (hr : (Gme Γ).sig.returnType = (some .boolean)) {K619 : St → Int32 → Int32 → Int32 → Int32 → Int32 → Int32 → Int64 → Int32 → Int32 → Option (Int32 × St)} (hK619 : ∀ {s : St} {l3 : Int32} {l4 : Int32} {l5 : Int32} {l6 : Int32} {l7 : Int32} {l8 : Int32} {l9 : Int64} {l11 : Int32} {l12 : Int32}, Hc c0 Z s → K619 s l3 l4 l5 l6 l7 l8 l9 l11 l12 = some (r, s') → V Γ D B true 13 (QX Γ D B true s' (.inl (some (.int r))) (64 * (ct s' - c0)) (768 * (ct s' - c0))) (kg 0 c0 s) (ng 0 c0 s) s 619 [(0, .ref (B + 0)), (1, .ref (B + 42)), (2, .ref (B + 39)), (3, .int l3), (4, .int l4), (5, .int l5), (6, .int l6), (7, .int l7), (8, .int l8), (9, .long l9), (11, .int l11), (12, .int l12)] []) {s : St} {l3 : Int32} {l4 : Int32} {l5 : Int32} {l6 : Int32} {l7 : Int32} {l8 : Int32} {l9 : Int64} {l12 : Int32} {t1 : Int32} {t2 : Int32} (hc : Hc c0 Z s) (hf : f_L_isRefused_b648 F Z K619 s l3 l4 l5 l6 l7 l8 l9 l12 t1 t2 = some (r, s')) : V Γ D B true 13 (QX Γ D B true s' (.inl (some (.int r))) (64 * (ct s' - c0)) (768 * (ct s' - c0))) (kg 0 c0 s) (ng 0 c0 s) s 648 [(0, .ref (B + 0)), (1, .ref (B + 42)), (2, .ref (B + 39)), (3, .int l3), (4, .int l4), (5, .int l5), (6, .int l6), (7, .int l7), (8, .int l8), (9, .long l9), (12, .int l12)] [.int t2, .int t1, .ref (B + 0)] := by
  unfold f_L_isRefused_b648 at hf
  refine r_iconst (v := 0) (pc := 648) X dL_isRefused_648 (by decide) ?_
  refine bnd hf (fun x61 h61 hf => ?_)
  refine ifo hf (fun hz hf => ?_)
  refine y_callWSi (As := [.ref (B + 0), .int t1, .int t2, .int 0]) (st := []) (pc := 649) X M Y hc (c_f_L_of h61 hc.2) rfl w_797 w_798 w_35 w_799 hdS_L_of (by decide) hz (Nat.le_of_ble_eq_true rfl) dL_isRefused_649 rfl (fun hc => ?_)
  refine r_sipush (v := -1241) (pc := 652) X dL_isRefused_652 (by decide) ?_
  refine b_icmp_ne (tgt := 662) (pc := 655) X dL_isRefused_655 (by decide) hf (fun hf => ?_) (fun hf => ?_)
  · refine r_iconst (v := 1) (pc := 658) X dL_isRefused_658 (by decide) ?_
    refine r_goto (tgt := 663) (pc := 659) X dL_isRefused_659 (by decide) ?_
    refine r_istore (pc := 663) (lv' := [(0, .ref (B + 0)), (1, .ref (B + 42)), (2, .ref (B + 39)), (3, .int l3), (4, .int l4), (5, .int l5), (6, .int l6), (7, .int l7), (8, .int l8), (9, .long l9), (11, .int 1), (12, .int l12)]) X dL_isRefused_663 (by decide) [1, 2, 3, 4, 5, 6, 7, 8, 9, 10, 0, 11] rfl ?_
    refine r_iinc (v := l12 + 1) (lv' := [(0, .ref (B + 0)), (1, .ref (B + 42)), (2, .ref (B + 39)), (3, .int l3), (4, .int l4), (5, .int l5), (6, .int l6), (7, .int l7), (8, .int l8), (9, .long l9), (11, .int 1), (12, .int (l12 + 1))]) (pc := 665) X dL_isRefused_665 11 rfl rfl (by decide) [1, 2, 3, 4, 5, 6, 7, 8, 9, 10, 11, 0] rfl ?_
    refine r_goto (tgt := 619) (pc := 668) X dL_isRefused_668 (by decide) ?_
    exact hK619 hc hf
  · refine r_iconst (v := 0) (pc := 662) X dL_isRefused_662 (by decide) ?_
    refine r_istore (pc := 663) (lv' := [(0, .ref (B + 0)), (1, .ref (B + 42)), (2, .ref (B + 39)), (3, .int l3), (4, .int l4), (5, .int l5), (6, .int l6), (7, .int l7), (8, .int l8), (9, .long l9), (11, .int 0), (12, .int l12)]) X dL_isRefused_663 (by decide) [1, 2, 3, 4, 5, 6, 7, 8, 9, 10, 0, 11] rfl ?_
    refine r_iinc (v := l12 + 1) (lv' := [(0, .ref (B + 0)), (1, .ref (B + 42)), (2, .ref (B + 39)), (3, .int l3), (4, .int l4), (5, .int l5), (6, .int l6), (7, .int l7), (8, .int l8), (9, .long l9), (11, .int 0), (12, .int (l12 + 1))]) (pc := 665) X dL_isRefused_665 11 rfl rfl (by decide) [1, 2, 3, 4, 5, 6, 7, 8, 9, 10, 11, 0] rfl ?_
    refine r_goto (tgt := 619) (pc := 668) X dL_isRefused_668 (by decide) ?_
    exact hK619 hc hf
set_option maxHeartbeats 1000000 in
theorem c_f_L_isRefused_b619 {F Z : Nat} {c0 : Nat} {Γ : Ga} {D : DD} {B : Nat} {r : Int32} {s' : St} (X : Cx Γ RL cL_isRefused 13 D B (RMg Z c0 804 16500)) (M : RLe (RMg Z c0 804 16500) Z 0 0 c0 804 16500) (Y : Xy Γ B) (hr : (Gme Γ).sig.returnType = (some .boolean)) : ∀ (n : Nat) {s : St} {l3 : Int32} {l4 : Int32} {l5 : Int32} {l6 : Int32} {l7 : Int32} {l8 : Int32} {l9 : Int64} {l11 : Int32} {l12 : Int32}, Hc c0 Z s → f_L_isRefused_b619 F Z n s l3 l4 l5 l6 l7 l8 l9 l11 l12 = some (r, s') → V Γ D B true 13 (QX Γ D B true s' (.inl (some (.int r))) (64 * (ct s' - c0)) (768 * (ct s' - c0))) (kg 0 c0 s) (ng 0 c0 s) s 619 [(0, .ref (B + 0)), (1, .ref (B + 42)), (2, .ref (B + 39)), (3, .int l3), (4, .int l4), (5, .int l5), (6, .int l6), (7, .int l7), (8, .int l8), (9, .long l9), (11, .int l11), (12, .int l12)] [] := by
  intro n
  induction n with
  | zero => intro s l3 l4 l5 l6 l7 l8 l9 l11 l12 hc hf; rw [f_L_isRefused_b619] at hf; cases hf
  | succ n ih =>
    intro s l3 l4 l5 l6 l7 l8 l9 l11 l12 hc hf
    rw [f_L_isRefused_b619] at hf
    refine r_iload (pc := 619) X dL_isRefused_619 11 rfl ?_
    refine r_bipush (v := 11) (pc := 621) X dL_isRefused_621 (by decide) ?_
    refine b_icmp_ge (tgt := 671) (pc := 623) X dL_isRefused_623 (by decide) hf (fun hf => ?_) (fun hf => ?_)
    · refine r_iconst (v := 0) (pc := 671) X dL_isRefused_671 (by decide) ?_
      refine r_istore (pc := 672) (lv' := [(0, .ref (B + 0)), (1, .ref (B + 42)), (2, .ref (B + 39)), (3, .int l3), (4, .int l4), (5, .int l5), (8, .int l8), (9, .long l9), (11, .int l11), (12, .int 0)]) X dL_isRefused_672 (by decide) [1, 2, 3, 4, 5, 6, 9, 10, 11, 0] rfl ?_
      exact c_f_L_isRefused_b674 X M Y hr _ hc hf
    · refine r_iload (pc := 626) X dL_isRefused_626 10 rfl ?_
      refine b_if_eq (tgt := 671) (pc := 628) X dL_isRefused_628 (by decide) hf (fun hf => ?_) (fun hf => ?_)
      · refine r_iconst (v := 0) (pc := 671) X dL_isRefused_671 (by decide) ?_
        refine r_istore (pc := 672) (lv' := [(0, .ref (B + 0)), (1, .ref (B + 42)), (2, .ref (B + 39)), (3, .int l3), (4, .int l4), (5, .int l5), (8, .int l8), (9, .long l9), (11, .int l11), (12, .int 0)]) X dL_isRefused_672 (by decide) [1, 2, 3, 4, 5, 6, 9, 10, 11, 0] rfl ?_
        exact c_f_L_isRefused_b674 X M Y hr _ hc hf
      · refine r_aload_n (x := some 0) (pc := 631) X dL_isRefused_631 0 rfl ?_
        refine r_iload (pc := 632) X dL_isRefused_632 11 rfl ?_
        refine r_iload (pc := 634) X dL_isRefused_634 11 rfl ?_
        refine r_bipush (v := 7) (pc := 636) X dL_isRefused_636 (by decide) ?_
        refine b_icmp_ge (tgt := 646) (pc := 638) X dL_isRefused_638 (by decide) hf (fun hf => ?_) (fun hf => ?_)
        · refine r_iload (pc := 646) X dL_isRefused_646 7 rfl ?_
          refine r_forget (lv' := [(0, .ref (B + 0)), (1, .ref (B + 42)), (2, .ref (B + 39)), (3, .int l3), (4, .int l4), (5, .int l5), (6, .int l6), (7, .int l7), (8, .int l8), (9, .long l9), (12, .int l12)]) [0, 1, 2, 3, 4, 5, 6, 7, 8, 9, 11] rfl ?_
          exact c_f_L_isRefused_b648 X M Y hr (fun hc hf => ih hc hf) hc hf
        · refine r_iload (pc := 641) X dL_isRefused_641 6 rfl ?_
          refine r_goto (tgt := 648) (pc := 643) X dL_isRefused_643 (by decide) ?_
          refine r_forget (lv' := [(0, .ref (B + 0)), (1, .ref (B + 42)), (2, .ref (B + 39)), (3, .int l3), (4, .int l4), (5, .int l5), (6, .int l6), (7, .int l7), (8, .int l8), (9, .long l9), (12, .int l12)]) [0, 1, 2, 3, 4, 5, 6, 7, 8, 9, 11] rfl ?_
          exact c_f_L_isRefused_b648 X M Y hr (fun hc hf => ih hc hf) hc hf
set_option maxHeartbeats 1000000 in
theorem c_f_L_isRefused_b570 {F Z : Nat} {c0 : Nat} {Γ : Ga} {D : DD} {B : Nat} {r : Int32} {s' : St} (X : Cx Γ RL cL_isRefused 13 D B (RMg Z c0 804 16500)) (M : RLe (RMg Z c0 804 16500) Z 0 0 c0 804 16500) (Y : Xy Γ B) (hr : (Gme Γ).sig.returnType = (some .boolean)) {s : St} {l3 : Int32} {l4 : Int32} {l5 : Int32} {l6 : Int32} {l7 : Int32} {l8 : Int32} {l9 : Int64} {t1 : Int32} {t2 : Int32} (hc : Hc c0 Z s) (hf : f_L_isRefused_b570 F Z s l3 l4 l5 l6 l7 l8 l9 t1 t2 = some (r, s')) : V Γ D B true 13 (QX Γ D B true s' (.inl (some (.int r))) (64 * (ct s' - c0)) (768 * (ct s' - c0))) (kg 0 c0 s) (ng 0 c0 s) s 570 [(0, .ref (B + 0)), (1, .ref (B + 42)), (2, .ref (B + 39)), (3, .int l3), (4, .int l4), (5, .int l5), (6, .int l6), (7, .int l7), (8, .int l8), (9, .long l9)] [.int t2, .int t1, .ref (B + 0)] := by
  unfold f_L_isRefused_b570 at hf
  refine r_aload_n (x := some 0) (pc := 570) X dL_isRefused_570 0 rfl ?_
  refine bnd hf (fun x30 h30 hf => ?_)
  refine y_callVi (As := []) (st := [.int t2, .int t1, .ref (B + 0)]) (pc := 571) X M hc (c_f_P_now h30) rfl w_317 w_318 w_319 w_36 w_320 hdV_X10_now (Rc.s rfl ce_0) (by decide) (Nat.le_of_ble_eq_true rfl) dL_isRefused_571 rfl hf (fun s31 hc hf => ?_)
  refine bnd hf (fun x32 h32 hf => ?_)
  refine ifo hf (fun hz hf => ?_)
  refine y_callWSl (As := [.ref (B + 0), .int t1, .int t2, .int x30.1]) (st := []) (pc := 574) X M Y hc (c_f_L_told h32 hc.2) rfl w_887 w_888 w_35 w_889 hdS_L_told (by decide) hz (Nat.le_of_ble_eq_true rfl) dL_isRefused_574 rfl (fun hc => ?_)
  refine r_ldc2 (v := -124200000000) (pc := 577) X w_974 dL_isRefused_577 ?_
  refine b_lcmp_ne (tgt := 613) (pc := 580) X dL_isRefused_580 dL_isRefused_581 (by decide) hf (fun hf => ?_) (fun hf => ?_)
  · refine r_aload_n (x := some 0) (pc := 584) X dL_isRefused_584 0 rfl ?_
    refine r_iload (pc := 585) X dL_isRefused_585 4 rfl ?_
    refine r_iconst (v := 0) (pc := 587) X dL_isRefused_587 (by decide) ?_
    refine r_aload_n (x := some 0) (pc := 588) X dL_isRefused_588 0 rfl ?_
    refine bnd hf (fun x33 h33 hf => ?_)
    refine y_callVi (As := []) (st := [.int 0, .int l4, .ref (B + 0)]) (pc := 589) X M hc (c_f_P_now h33) rfl w_317 w_318 w_319 w_36 w_320 hdV_X10_now (Rc.s rfl ce_0) (by decide) (Nat.le_of_ble_eq_true rfl) dL_isRefused_589 rfl hf (fun s34 hc hf => ?_)
    refine r_iconst (v := 1) (pc := 592) X dL_isRefused_592 (by decide) ?_
    refine r_iadd (pc := 593) X dL_isRefused_593 ?_
    refine r_iload_n (pc := 594) X dL_isRefused_594 3 rfl ?_
    refine r_bipush (v := 30) (pc := 595) X dL_isRefused_595 (by decide) ?_
    refine r_irem (pc := 597) X dL_isRefused_597 (by decide) ?_
    refine r_iadd (pc := 598) X dL_isRefused_598 ?_
    refine bnd hf (fun x35 h35 hf => ?_)
    refine ifo hf (fun hz hf => ?_)
    refine y_callWSl (As := [.ref (B + 0), .int l4, .int 0, .int ((x33.1 + 1) + (l3 - l3 / 30 * 30))]) (st := []) (pc := 599) X M Y hc (c_f_L_told h35 hc.2) rfl w_887 w_888 w_35 w_889 hdS_L_told (by decide) hz (Nat.le_of_ble_eq_true rfl) dL_isRefused_599 rfl (fun hc => ?_)
    refine r_ldc2 (v := -124200000000) (pc := 602) X w_974 dL_isRefused_602 ?_
    refine b_lcmp_ne (tgt := 613) (pc := 605) X dL_isRefused_605 dL_isRefused_606 (by decide) hf (fun hf => ?_) (fun hf => ?_)
    · refine r_iconst (v := 1) (pc := 609) X dL_isRefused_609 (by decide) ?_
      refine r_goto (tgt := 614) (pc := 610) X dL_isRefused_610 (by decide) ?_
      refine r_istore (pc := 614) (lv' := [(0, .ref (B + 0)), (1, .ref (B + 42)), (2, .ref (B + 39)), (3, .int l3), (4, .int l4), (5, .int l5), (6, .int l6), (7, .int l7), (8, .int l8), (9, .long l9), (11, .int 1)]) X dL_isRefused_614 (by decide) [1, 2, 3, 4, 5, 6, 7, 8, 9, 10, 0] rfl ?_
      refine r_iconst (v := 4) (pc := 616) X dL_isRefused_616 (by decide) ?_
      refine r_istore (pc := 617) (lv' := [(0, .ref (B + 0)), (1, .ref (B + 42)), (2, .ref (B + 39)), (3, .int l3), (4, .int l4), (5, .int l5), (6, .int l6), (7, .int l7), (8, .int l8), (9, .long l9), (11, .int 1), (12, .int 4)]) X dL_isRefused_617 (by decide) [1, 2, 3, 4, 5, 6, 7, 8, 9, 10, 11, 0] rfl ?_
      exact c_f_L_isRefused_b619 X M Y hr _ hc hf
    · refine r_iconst (v := 0) (pc := 613) X dL_isRefused_613 (by decide) ?_
      refine r_istore (pc := 614) (lv' := [(0, .ref (B + 0)), (1, .ref (B + 42)), (2, .ref (B + 39)), (3, .int l3), (4, .int l4), (5, .int l5), (6, .int l6), (7, .int l7), (8, .int l8), (9, .long l9), (11, .int 0)]) X dL_isRefused_614 (by decide) [1, 2, 3, 4, 5, 6, 7, 8, 9, 10, 0] rfl ?_
      refine r_iconst (v := 4) (pc := 616) X dL_isRefused_616 (by decide) ?_
      refine r_istore (pc := 617) (lv' := [(0, .ref (B + 0)), (1, .ref (B + 42)), (2, .ref (B + 39)), (3, .int l3), (4, .int l4), (5, .int l5), (6, .int l6), (7, .int l7), (8, .int l8), (9, .long l9), (11, .int 0), (12, .int 4)]) X dL_isRefused_617 (by decide) [1, 2, 3, 4, 5, 6, 7, 8, 9, 10, 11, 0] rfl ?_
      exact c_f_L_isRefused_b619 X M Y hr _ hc hf
  · refine r_iconst (v := 0) (pc := 613) X dL_isRefused_613 (by decide) ?_
    refine r_istore (pc := 614) (lv' := [(0, .ref (B + 0)), (1, .ref (B + 42)), (2, .ref (B + 39)), (3, .int l3), (4, .int l4), (5, .int l5), (6, .int l6), (7, .int l7), (8, .int l8), (9, .long l9), (11, .int 0)]) X dL_isRefused_614 (by decide) [1, 2, 3, 4, 5, 6, 7, 8, 9, 10, 0] rfl ?_
    refine r_iconst (v := 4) (pc := 616) X dL_isRefused_616 (by decide) ?_
    refine r_istore (pc := 617) (lv' := [(0, .ref (B + 0)), (1, .ref (B + 42)), (2, .ref (B + 39)), (3, .int l3), (4, .int l4), (5, .int l5), (6, .int l6), (7, .int l7), (8, .int l8), (9, .long l9), (11, .int 0), (12, .int 4)]) X dL_isRefused_617 (by decide) [1, 2, 3, 4, 5, 6, 7, 8, 9, 10, 11, 0] rfl ?_
    exact c_f_L_isRefused_b619 X M Y hr _ hc hf
set_option maxHeartbeats 1000000 in
theorem c_f_L_isRefused_b508 {F Z : Nat} {c0 : Nat} {Γ : Ga} {D : DD} {B : Nat} {r : Int32} {s' : St} (X : Cx Γ RL cL_isRefused 13 D B (RMg Z c0 804 16500)) (M : RLe (RMg Z c0 804 16500) Z 0 0 c0 804 16500) (Y : Xy Γ B) (hr : (Gme Γ).sig.returnType = (some .boolean)) {s : St} {l3 : Int32} {l4 : Int32} {l5 : Int32} {l6 : Int32} {l7 : Int32} {l8 : Int32} {l9 : Int64} {t1 : Int32} {t2 : Int32} (hc : Hc c0 Z s) (hf : f_L_isRefused_b508 F Z s l3 l4 l5 l6 l7 l8 l9 t1 t2 = some (r, s')) : V Γ D B true 13 (QX Γ D B true s' (.inl (some (.int r))) (64 * (ct s' - c0)) (768 * (ct s' - c0))) (kg 0 c0 s) (ng 0 c0 s) s 508 [(0, .ref (B + 0)), (1, .ref (B + 42)), (2, .ref (B + 39)), (3, .int l3), (4, .int l4), (5, .int l5), (6, .int l6), (7, .int l7), (8, .int l8), (9, .long l9)] [.int t2, .int t1, .ref (B + 0)] := by
  unfold f_L_isRefused_b508 at hf
  refine r_iconst (v := 0) (pc := 508) X dL_isRefused_508 (by decide) ?_
  refine bnd hf (fun x25 h25 hf => ?_)
  refine ifo hf (fun hz hf => ?_)
  refine y_callWSi (As := [.ref (B + 0), .int t1, .int t2, .int 0]) (st := []) (pc := 509) X M Y hc (c_f_L_of h25 hc.2) rfl w_797 w_798 w_35 w_799 hdS_L_of (by decide) hz (Nat.le_of_ble_eq_true rfl) dL_isRefused_509 rfl (fun hc => ?_)
  refine r_sipush (v := -1242) (pc := 512) X dL_isRefused_512 (by decide) ?_
  refine b_icmp_ne (tgt := 613) (pc := 515) X dL_isRefused_515 (by decide) hf (fun hf => ?_) (fun hf => ?_)
  · refine r_aload_n (x := some 0) (pc := 518) X dL_isRefused_518 0 rfl ?_
    refine r_iconst (v := 2) (pc := 519) X dL_isRefused_519 (by decide) ?_
    refine r_iload (pc := 520) X dL_isRefused_520 5 rfl ?_
    refine r_iconst (v := 0) (pc := 522) X dL_isRefused_522 (by decide) ?_
    refine bnd hf (fun x26 h26 hf => ?_)
    refine ifo hf (fun hz hf => ?_)
    refine y_callWSi (As := [.ref (B + 0), .int 2, .int l5, .int 0]) (st := []) (pc := 523) X M Y hc (c_f_L_of h26 hc.2) rfl w_797 w_798 w_35 w_799 hdS_L_of (by decide) hz (Nat.le_of_ble_eq_true rfl) dL_isRefused_523 rfl (fun hc => ?_)
    refine r_sipush (v := -1241) (pc := 526) X dL_isRefused_526 (by decide) ?_
    refine b_icmp_ne (tgt := 613) (pc := 529) X dL_isRefused_529 (by decide) hf (fun hf => ?_) (fun hf => ?_)
    · refine r_aload_n (x := some 0) (pc := 532) X dL_isRefused_532 0 rfl ?_
      refine r_iconst (v := 3) (pc := 533) X dL_isRefused_533 (by decide) ?_
      refine r_iload (pc := 534) X dL_isRefused_534 5 rfl ?_
      refine r_iload (pc := 536) X dL_isRefused_536 5 rfl ?_
      refine bnd hf (fun x27 h27 hf => ?_)
      refine ifo hf (fun hz hf => ?_)
      refine y_callWSi (As := [.ref (B + 0), .int 3, .int l5, .int l5]) (st := []) (pc := 538) X M Y hc (c_f_L_of h27 hc.2) rfl w_797 w_798 w_35 w_799 hdS_L_of (by decide) hz (Nat.le_of_ble_eq_true rfl) dL_isRefused_538 rfl (fun hc => ?_)
      refine r_sipush (v := -1241) (pc := 541) X dL_isRefused_541 (by decide) ?_
      refine b_icmp_ne (tgt := 613) (pc := 544) X dL_isRefused_544 (by decide) hf (fun hf => ?_) (fun hf => ?_)
      · refine r_aload_n (x := some 0) (pc := 547) X dL_isRefused_547 0 rfl ?_
        refine r_iload (pc := 548) X dL_isRefused_548 4 rfl ?_
        refine r_iload (pc := 550) X dL_isRefused_550 4 rfl ?_
        refine b_if_eq (tgt := 564) (pc := 552) X dL_isRefused_552 (by decide) hf (fun hf => ?_) (fun hf => ?_)
        · refine r_aload_n (x := some 0) (pc := 564) X dL_isRefused_564 0 rfl ?_
          refine bnd hf (fun x28 h28 hf => ?_)
          refine y_callVi (As := []) (st := [.int l4, .ref (B + 0)]) (pc := 565) X M hc (c_f_P_now h28) rfl w_317 w_318 w_319 w_36 w_320 hdV_X10_now (Rc.s rfl ce_0) (by decide) (Nat.le_of_ble_eq_true rfl) dL_isRefused_565 rfl hf (fun s29 hc hf => ?_)
          refine r_iconst (v := 1) (pc := 568) X dL_isRefused_568 (by decide) ?_
          refine r_iadd (pc := 569) X dL_isRefused_569 ?_
          exact c_f_L_isRefused_b570 X M Y hr hc hf
        · refine r_iconst (v := -1) (pc := 555) X dL_isRefused_555 (by decide) ?_
          refine r_iload_n (pc := 556) X dL_isRefused_556 3 rfl ?_
          refine r_bipush (v := 30) (pc := 557) X dL_isRefused_557 (by decide) ?_
          refine r_irem (pc := 559) X dL_isRefused_559 (by decide) ?_
          refine r_isub (pc := 560) X dL_isRefused_560 ?_
          refine r_goto (tgt := 570) (pc := 561) X dL_isRefused_561 (by decide) ?_
          exact c_f_L_isRefused_b570 X M Y hr hc hf
      · refine r_iconst (v := 0) (pc := 613) X dL_isRefused_613 (by decide) ?_
        refine r_istore (pc := 614) (lv' := [(0, .ref (B + 0)), (1, .ref (B + 42)), (2, .ref (B + 39)), (3, .int l3), (4, .int l4), (5, .int l5), (6, .int l6), (7, .int l7), (8, .int l8), (9, .long l9), (11, .int 0)]) X dL_isRefused_614 (by decide) [1, 2, 3, 4, 5, 6, 7, 8, 9, 10, 0] rfl ?_
        refine r_iconst (v := 4) (pc := 616) X dL_isRefused_616 (by decide) ?_
        refine r_istore (pc := 617) (lv' := [(0, .ref (B + 0)), (1, .ref (B + 42)), (2, .ref (B + 39)), (3, .int l3), (4, .int l4), (5, .int l5), (6, .int l6), (7, .int l7), (8, .int l8), (9, .long l9), (11, .int 0), (12, .int 4)]) X dL_isRefused_617 (by decide) [1, 2, 3, 4, 5, 6, 7, 8, 9, 10, 11, 0] rfl ?_
        exact c_f_L_isRefused_b619 X M Y hr _ hc hf
    · refine r_iconst (v := 0) (pc := 613) X dL_isRefused_613 (by decide) ?_
      refine r_istore (pc := 614) (lv' := [(0, .ref (B + 0)), (1, .ref (B + 42)), (2, .ref (B + 39)), (3, .int l3), (4, .int l4), (5, .int l5), (6, .int l6), (7, .int l7), (8, .int l8), (9, .long l9), (11, .int 0)]) X dL_isRefused_614 (by decide) [1, 2, 3, 4, 5, 6, 7, 8, 9, 10, 0] rfl ?_
      refine r_iconst (v := 4) (pc := 616) X dL_isRefused_616 (by decide) ?_
      refine r_istore (pc := 617) (lv' := [(0, .ref (B + 0)), (1, .ref (B + 42)), (2, .ref (B + 39)), (3, .int l3), (4, .int l4), (5, .int l5), (6, .int l6), (7, .int l7), (8, .int l8), (9, .long l9), (11, .int 0), (12, .int 4)]) X dL_isRefused_617 (by decide) [1, 2, 3, 4, 5, 6, 7, 8, 9, 10, 11, 0] rfl ?_
      exact c_f_L_isRefused_b619 X M Y hr _ hc hf
  · refine r_iconst (v := 0) (pc := 613) X dL_isRefused_613 (by decide) ?_
    refine r_istore (pc := 614) (lv' := [(0, .ref (B + 0)), (1, .ref (B + 42)), (2, .ref (B + 39)), (3, .int l3), (4, .int l4), (5, .int l5), (6, .int l6), (7, .int l7), (8, .int l8), (9, .long l9), (11, .int 0)]) X dL_isRefused_614 (by decide) [1, 2, 3, 4, 5, 6, 7, 8, 9, 10, 0] rfl ?_
    refine r_iconst (v := 4) (pc := 616) X dL_isRefused_616 (by decide) ?_
    refine r_istore (pc := 617) (lv' := [(0, .ref (B + 0)), (1, .ref (B + 42)), (2, .ref (B + 39)), (3, .int l3), (4, .int l4), (5, .int l5), (6, .int l6), (7, .int l7), (8, .int l8), (9, .long l9), (11, .int 0), (12, .int 4)]) X dL_isRefused_617 (by decide) [1, 2, 3, 4, 5, 6, 7, 8, 9, 10, 11, 0] rfl ?_
    exact c_f_L_isRefused_b619 X M Y hr _ hc hf
set_option maxHeartbeats 1000000 in
theorem c_f_L_isRefused_b473 {F Z : Nat} {c0 : Nat} {Γ : Ga} {D : DD} {B : Nat} {r : Int32} {s' : St} (X : Cx Γ RL cL_isRefused 13 D B (RMg Z c0 804 16500)) (M : RLe (RMg Z c0 804 16500) Z 0 0 c0 804 16500) (Y : Xy Γ B) (hr : (Gme Γ).sig.returnType = (some .boolean)) {s : St} {l3 : Int32} {l4 : Int32} {l5 : Int32} {l6 : Int32} {l7 : Int32} {l8 : Int32} {l9 : Int64} {t1 : Int32} {t2 : Int32} (hc : Hc c0 Z s) (hf : f_L_isRefused_b473 F Z s l3 l4 l5 l6 l7 l8 l9 t1 t2 = some (r, s')) : V Γ D B true 13 (QX Γ D B true s' (.inl (some (.int r))) (64 * (ct s' - c0)) (768 * (ct s' - c0))) (kg 0 c0 s) (ng 0 c0 s) s 473 [(0, .ref (B + 0)), (1, .ref (B + 42)), (2, .ref (B + 39)), (3, .int l3), (4, .int l4), (5, .int l5), (6, .int l6), (7, .int l7), (8, .int l8), (9, .long l9)] [.int t2, .int t1, .ref (B + 0)] := by
  unfold f_L_isRefused_b473 at hf
  refine r_iconst (v := 0) (pc := 473) X dL_isRefused_473 (by decide) ?_
  refine bnd hf (fun x24 h24 hf => ?_)
  refine ifo hf (fun hz hf => ?_)
  refine y_callWSi (As := [.ref (B + 0), .int t1, .int t2, .int 0]) (st := []) (pc := 474) X M Y hc (c_f_L_of h24 hc.2) rfl w_797 w_798 w_35 w_799 hdS_L_of (by decide) hz (Nat.le_of_ble_eq_true rfl) dL_isRefused_474 rfl (fun hc => ?_)
  refine r_sipush (v := -1242) (pc := 477) X dL_isRefused_477 (by decide) ?_
  refine b_icmp_ne (tgt := 613) (pc := 480) X dL_isRefused_480 (by decide) hf (fun hf => ?_) (fun hf => ?_)
  · refine r_aload_n (x := some 0) (pc := 483) X dL_isRefused_483 0 rfl ?_
    refine r_iconst (v := 1) (pc := 484) X dL_isRefused_484 (by decide) ?_
    refine r_iload (pc := 485) X dL_isRefused_485 4 rfl ?_
    refine b_if_eq (tgt := 499) (pc := 487) X dL_isRefused_487 (by decide) hf (fun hf => ?_) (fun hf => ?_)
    · refine r_iload (pc := 499) X dL_isRefused_499 8 rfl ?_
      refine r_iconst (v := 1) (pc := 501) X dL_isRefused_501 (by decide) ?_
      refine r_iadd (pc := 502) X dL_isRefused_502 ?_
      refine r_iload_n (pc := 503) X dL_isRefused_503 3 rfl ?_
      refine r_bipush (v := 30) (pc := 504) X dL_isRefused_504 (by decide) ?_
      refine r_irem (pc := 506) X dL_isRefused_506 (by decide) ?_
      refine r_iadd (pc := 507) X dL_isRefused_507 ?_
      exact c_f_L_isRefused_b508 X M Y hr hc hf
    · refine r_iconst (v := -1) (pc := 490) X dL_isRefused_490 (by decide) ?_
      refine r_iload_n (pc := 491) X dL_isRefused_491 3 rfl ?_
      refine r_bipush (v := 30) (pc := 492) X dL_isRefused_492 (by decide) ?_
      refine r_irem (pc := 494) X dL_isRefused_494 (by decide) ?_
      refine r_isub (pc := 495) X dL_isRefused_495 ?_
      refine r_goto (tgt := 508) (pc := 496) X dL_isRefused_496 (by decide) ?_
      exact c_f_L_isRefused_b508 X M Y hr hc hf
  · refine r_iconst (v := 0) (pc := 613) X dL_isRefused_613 (by decide) ?_
    refine r_istore (pc := 614) (lv' := [(0, .ref (B + 0)), (1, .ref (B + 42)), (2, .ref (B + 39)), (3, .int l3), (4, .int l4), (5, .int l5), (6, .int l6), (7, .int l7), (8, .int l8), (9, .long l9), (11, .int 0)]) X dL_isRefused_614 (by decide) [1, 2, 3, 4, 5, 6, 7, 8, 9, 10, 0] rfl ?_
    refine r_iconst (v := 4) (pc := 616) X dL_isRefused_616 (by decide) ?_
    refine r_istore (pc := 617) (lv' := [(0, .ref (B + 0)), (1, .ref (B + 42)), (2, .ref (B + 39)), (3, .int l3), (4, .int l4), (5, .int l5), (6, .int l6), (7, .int l7), (8, .int l8), (9, .long l9), (11, .int 0), (12, .int 4)]) X dL_isRefused_617 (by decide) [1, 2, 3, 4, 5, 6, 7, 8, 9, 10, 11, 0] rfl ?_
    exact c_f_L_isRefused_b619 X M Y hr _ hc hf
set_option maxHeartbeats 1000000 in
theorem c_f_L_isRefused_b296 {F Z : Nat} {c0 : Nat} {Γ : Ga} {D : DD} {B : Nat} {r : Int32} {s' : St} (X : Cx Γ RL cL_isRefused 13 D B (RMg Z c0 804 16500)) (M : RLe (RMg Z c0 804 16500) Z 0 0 c0 804 16500) (Y : Xy Γ B) (hr : (Gme Γ).sig.returnType = (some .boolean)) {s : St} {l3 : Int32} {l4 : Int32} {l5 : Int32} {l6 : Int32} {l7 : Int32} {l8 : Int32} {l9 : Int64} {t1 : Int32} {t2 : Int32} {t3 : Int32} {t4 : Int32} {t5 : Int32} (hc : Hc c0 Z s) (hf : f_L_isRefused_b296 F Z s l3 l4 l5 l6 l7 l8 l9 t1 t2 t3 t4 t5 = some (r, s')) : V Γ D B true 13 (QX Γ D B true s' (.inl (some (.int r))) (64 * (ct s' - c0)) (768 * (ct s' - c0))) (kg 0 c0 s) (ng 0 c0 s) s 296 [(0, .ref (B + 0)), (1, .ref (B + 42)), (2, .ref (B + 39)), (3, .int l3), (4, .int l4), (5, .int l5), (6, .int l6), (7, .int l7), (8, .int l8), (9, .long l9)] [.int t5, .int t4, .int t3, .int t2, .int t1, .ref (B + 0)] := by
  unfold f_L_isRefused_b296 at hf
  refine bnd hf (fun x15 h15 hf => ?_)
  refine ifo hf (fun hz hf => ?_)
  refine y_callWSi (As := [.ref (B + 0), .int t1, .int t2, .int t3, .int t4, .int t5]) (st := []) (pc := 296) X M Y hc (c_f_L_act h15 hc.2) rfl w_437 w_438 w_35 w_439 hdS_L_act (by decide) hz (Nat.le_of_ble_eq_true rfl) dL_isRefused_296 rfl (fun hc => ?_)
  refine r_sipush (v := -1242) (pc := 299) X dL_isRefused_299 (by decide) ?_
  refine b_icmp_ne (tgt := 613) (pc := 302) X dL_isRefused_302 (by decide) hf (fun hf => ?_) (fun hf => ?_)
  · refine r_aload_n (x := some 0) (pc := 305) X dL_isRefused_305 0 rfl ?_
    refine r_iconst (v := 4) (pc := 306) X dL_isRefused_306 (by decide) ?_
    refine r_iload (pc := 307) X dL_isRefused_307 5 rfl ?_
    refine r_iload (pc := 309) X dL_isRefused_309 8 rfl ?_
    refine r_iconst (v := 0) (pc := 311) X dL_isRefused_311 (by decide) ?_
    refine r_iconst (v := 0) (pc := 312) X dL_isRefused_312 (by decide) ?_
    refine bnd hf (fun x16 h16 hf => ?_)
    refine ifo hf (fun hz hf => ?_)
    refine y_callWSi (As := [.ref (B + 0), .int 4, .int l5, .int l8, .int 0, .int 0]) (st := []) (pc := 313) X M Y hc (c_f_L_act h16 hc.2) rfl w_437 w_438 w_35 w_439 hdS_L_act (by decide) hz (Nat.le_of_ble_eq_true rfl) dL_isRefused_313 rfl (fun hc => ?_)
    refine r_sipush (v := -1241) (pc := 316) X dL_isRefused_316 (by decide) ?_
    refine b_icmp_ne (tgt := 613) (pc := 319) X dL_isRefused_319 (by decide) hf (fun hf => ?_) (fun hf => ?_)
    · refine r_aload_n (x := some 0) (pc := 322) X dL_isRefused_322 0 rfl ?_
      refine r_iconst (v := 5) (pc := 323) X dL_isRefused_323 (by decide) ?_
      refine r_iload (pc := 324) X dL_isRefused_324 5 rfl ?_
      refine r_iconst (v := 0) (pc := 326) X dL_isRefused_326 (by decide) ?_
      refine r_iconst (v := -1) (pc := 327) X dL_isRefused_327 (by decide) ?_
      refine r_iconst (v := 0) (pc := 328) X dL_isRefused_328 (by decide) ?_
      refine bnd hf (fun x17 h17 hf => ?_)
      refine ifo hf (fun hz hf => ?_)
      refine y_callWSi (As := [.ref (B + 0), .int 5, .int l5, .int 0, .int (-1), .int 0]) (st := []) (pc := 329) X M Y hc (c_f_L_act h17 hc.2) rfl w_437 w_438 w_35 w_439 hdS_L_act (by decide) hz (Nat.le_of_ble_eq_true rfl) dL_isRefused_329 rfl (fun hc => ?_)
      refine r_sipush (v := -1241) (pc := 332) X dL_isRefused_332 (by decide) ?_
      refine b_icmp_ne (tgt := 613) (pc := 335) X dL_isRefused_335 (by decide) hf (fun hf => ?_) (fun hf => ?_)
      · refine r_aload_n (x := some 0) (pc := 338) X dL_isRefused_338 0 rfl ?_
        refine r_bipush (v := 6) (pc := 339) X dL_isRefused_339 (by decide) ?_
        refine r_iload (pc := 341) X dL_isRefused_341 6 rfl ?_
        refine r_iconst (v := 0) (pc := 343) X dL_isRefused_343 (by decide) ?_
        refine r_iconst (v := 0) (pc := 344) X dL_isRefused_344 (by decide) ?_
        refine r_iconst (v := 0) (pc := 345) X dL_isRefused_345 (by decide) ?_
        refine bnd hf (fun x18 h18 hf => ?_)
        refine ifo hf (fun hz hf => ?_)
        refine y_callWSi (As := [.ref (B + 0), .int 6, .int l6, .int 0, .int 0, .int 0]) (st := []) (pc := 346) X M Y hc (c_f_L_act h18 hc.2) rfl w_437 w_438 w_35 w_439 hdS_L_act (by decide) hz (Nat.le_of_ble_eq_true rfl) dL_isRefused_346 rfl (fun hc => ?_)
        refine r_sipush (v := -1241) (pc := 349) X dL_isRefused_349 (by decide) ?_
        refine b_icmp_ne (tgt := 613) (pc := 352) X dL_isRefused_352 (by decide) hf (fun hf => ?_) (fun hf => ?_)
        · refine r_aload_n (x := some 0) (pc := 355) X dL_isRefused_355 0 rfl ?_
          refine r_bipush (v := 7) (pc := 356) X dL_isRefused_356 (by decide) ?_
          refine r_iload (pc := 358) X dL_isRefused_358 6 rfl ?_
          refine r_iconst (v := 0) (pc := 360) X dL_isRefused_360 (by decide) ?_
          refine r_iconst (v := 0) (pc := 361) X dL_isRefused_361 (by decide) ?_
          refine r_iconst (v := 0) (pc := 362) X dL_isRefused_362 (by decide) ?_
          refine bnd hf (fun x19 h19 hf => ?_)
          refine ifo hf (fun hz hf => ?_)
          refine y_callWSi (As := [.ref (B + 0), .int 7, .int l6, .int 0, .int 0, .int 0]) (st := []) (pc := 363) X M Y hc (c_f_L_act h19 hc.2) rfl w_437 w_438 w_35 w_439 hdS_L_act (by decide) hz (Nat.le_of_ble_eq_true rfl) dL_isRefused_363 rfl (fun hc => ?_)
          refine r_sipush (v := -1241) (pc := 366) X dL_isRefused_366 (by decide) ?_
          refine b_icmp_ne (tgt := 613) (pc := 369) X dL_isRefused_369 (by decide) hf (fun hf => ?_) (fun hf => ?_)
          · refine r_aload_n (x := some 0) (pc := 372) X dL_isRefused_372 0 rfl ?_
            refine r_bipush (v := 8) (pc := 373) X dL_isRefused_373 (by decide) ?_
            refine r_iload (pc := 375) X dL_isRefused_375 7 rfl ?_
            refine r_iconst (v := 0) (pc := 377) X dL_isRefused_377 (by decide) ?_
            refine r_iconst (v := 0) (pc := 378) X dL_isRefused_378 (by decide) ?_
            refine r_iconst (v := 0) (pc := 379) X dL_isRefused_379 (by decide) ?_
            refine bnd hf (fun x20 h20 hf => ?_)
            refine ifo hf (fun hz hf => ?_)
            refine y_callWSi (As := [.ref (B + 0), .int 8, .int l7, .int 0, .int 0, .int 0]) (st := []) (pc := 380) X M Y hc (c_f_L_act h20 hc.2) rfl w_437 w_438 w_35 w_439 hdS_L_act (by decide) hz (Nat.le_of_ble_eq_true rfl) dL_isRefused_380 rfl (fun hc => ?_)
            refine r_sipush (v := -1241) (pc := 383) X dL_isRefused_383 (by decide) ?_
            refine b_icmp_ne (tgt := 613) (pc := 386) X dL_isRefused_386 (by decide) hf (fun hf => ?_) (fun hf => ?_)
            · refine r_aload_n (x := some 0) (pc := 389) X dL_isRefused_389 0 rfl ?_
              refine r_iload (pc := 390) X dL_isRefused_390 8 rfl ?_
              refine r_iload_n (pc := 392) X dL_isRefused_392 3 rfl ?_
              refine r_bipush (v := 30) (pc := 393) X dL_isRefused_393 (by decide) ?_
              refine r_irem (pc := 395) X dL_isRefused_395 (by decide) ?_
              refine r_isub (pc := 396) X dL_isRefused_396 ?_
              refine r_iload (pc := 397) X dL_isRefused_397 8 rfl ?_
              refine r_iconst (v := 1) (pc := 399) X dL_isRefused_399 (by decide) ?_
              refine r_iadd (pc := 400) X dL_isRefused_400 ?_
              refine bnd hf (fun x21 h21 hf => ?_)
              refine ifo hf (fun hz hf => ?_)
              refine y_callWSi (As := [.ref (B + 0), .int (l8 - (l3 - l3 / 30 * 30)), .int (l8 + 1)]) (st := []) (pc := 401) X M Y hc (c_f_L_swapped h21 hc.2) rfl w_992 w_993 w_35 w_994 hdS_L_swapped (by decide) hz (Nat.le_of_ble_eq_true rfl) dL_isRefused_401 rfl (fun hc => ?_)
              refine r_sipush (v := -1242) (pc := 404) X dL_isRefused_404 (by decide) ?_
              refine b_icmp_ne (tgt := 613) (pc := 407) X dL_isRefused_407 (by decide) hf (fun hf => ?_) (fun hf => ?_)
              · refine r_aload_n (x := some 0) (pc := 410) X dL_isRefused_410 0 rfl ?_
                refine r_iload (pc := 411) X dL_isRefused_411 8 rfl ?_
                refine r_iconst (v := 1) (pc := 413) X dL_isRefused_413 (by decide) ?_
                refine r_iadd (pc := 414) X dL_isRefused_414 ?_
                refine r_iload (pc := 415) X dL_isRefused_415 8 rfl ?_
                refine r_iconst (v := 1) (pc := 417) X dL_isRefused_417 (by decide) ?_
                refine r_iadd (pc := 418) X dL_isRefused_418 ?_
                refine bnd hf (fun x22 h22 hf => ?_)
                refine ifo hf (fun hz hf => ?_)
                refine y_callWSi (As := [.ref (B + 0), .int (l8 + 1), .int (l8 + 1)]) (st := []) (pc := 419) X M Y hc (c_f_L_swapped h22 hc.2) rfl w_992 w_993 w_35 w_994 hdS_L_swapped (by decide) hz (Nat.le_of_ble_eq_true rfl) dL_isRefused_419 rfl (fun hc => ?_)
                refine r_sipush (v := -1242) (pc := 422) X dL_isRefused_422 (by decide) ?_
                refine b_icmp_ne (tgt := 613) (pc := 425) X dL_isRefused_425 (by decide) hf (fun hf => ?_) (fun hf => ?_)
                · refine r_aload_n (x := some 0) (pc := 428) X dL_isRefused_428 0 rfl ?_
                  refine r_iload (pc := 429) X dL_isRefused_429 8 rfl ?_
                  refine r_iconst (v := 2) (pc := 431) X dL_isRefused_431 (by decide) ?_
                  refine r_iadd (pc := 432) X dL_isRefused_432 ?_
                  refine r_bipush (v := 126) (pc := 433) X dL_isRefused_433 (by decide) ?_
                  refine r_iload_n (pc := 435) X dL_isRefused_435 3 rfl ?_
                  refine r_bipush (v := 30) (pc := 436) X dL_isRefused_436 (by decide) ?_
                  refine r_irem (pc := 438) X dL_isRefused_438 (by decide) ?_
                  refine r_iadd (pc := 439) X dL_isRefused_439 ?_
                  refine bnd hf (fun x23 h23 hf => ?_)
                  refine ifo hf (fun hz hf => ?_)
                  refine y_callWSi (As := [.ref (B + 0), .int (l8 + 2), .int ((126 : Int32) + (l3 - l3 / 30 * 30))]) (st := []) (pc := 440) X M Y hc (c_f_L_swapped h23 hc.2) rfl w_992 w_993 w_35 w_994 hdS_L_swapped (by decide) hz (Nat.le_of_ble_eq_true rfl) dL_isRefused_440 rfl (fun hc => ?_)
                  refine r_sipush (v := -1242) (pc := 443) X dL_isRefused_443 (by decide) ?_
                  refine b_icmp_ne (tgt := 613) (pc := 446) X dL_isRefused_446 (by decide) hf (fun hf => ?_) (fun hf => ?_)
                  · refine r_aload_n (x := some 0) (pc := 449) X dL_isRefused_449 0 rfl ?_
                    refine r_iconst (v := 0) (pc := 450) X dL_isRefused_450 (by decide) ?_
                    refine r_iload (pc := 451) X dL_isRefused_451 4 rfl ?_
                    refine b_if_eq (tgt := 466) (pc := 453) X dL_isRefused_453 (by decide) hf (fun hf => ?_) (fun hf => ?_)
                    · refine r_bipush (v := 126) (pc := 466) X dL_isRefused_466 (by decide) ?_
                      refine r_iload_n (pc := 468) X dL_isRefused_468 3 rfl ?_
                      refine r_bipush (v := 30) (pc := 469) X dL_isRefused_469 (by decide) ?_
                      refine r_irem (pc := 471) X dL_isRefused_471 (by decide) ?_
                      refine r_iadd (pc := 472) X dL_isRefused_472 ?_
                      exact c_f_L_isRefused_b473 X M Y hr hc hf
                    · refine r_iload (pc := 456) X dL_isRefused_456 8 rfl ?_
                      refine r_iload_n (pc := 458) X dL_isRefused_458 3 rfl ?_
                      refine r_bipush (v := 30) (pc := 459) X dL_isRefused_459 (by decide) ?_
                      refine r_irem (pc := 461) X dL_isRefused_461 (by decide) ?_
                      refine r_isub (pc := 462) X dL_isRefused_462 ?_
                      refine r_goto (tgt := 473) (pc := 463) X dL_isRefused_463 (by decide) ?_
                      exact c_f_L_isRefused_b473 X M Y hr hc hf
                  · refine r_iconst (v := 0) (pc := 613) X dL_isRefused_613 (by decide) ?_
                    refine r_istore (pc := 614) (lv' := [(0, .ref (B + 0)), (1, .ref (B + 42)), (2, .ref (B + 39)), (3, .int l3), (4, .int l4), (5, .int l5), (6, .int l6), (7, .int l7), (8, .int l8), (9, .long l9), (11, .int 0)]) X dL_isRefused_614 (by decide) [1, 2, 3, 4, 5, 6, 7, 8, 9, 10, 0] rfl ?_
                    refine r_iconst (v := 4) (pc := 616) X dL_isRefused_616 (by decide) ?_
                    refine r_istore (pc := 617) (lv' := [(0, .ref (B + 0)), (1, .ref (B + 42)), (2, .ref (B + 39)), (3, .int l3), (4, .int l4), (5, .int l5), (6, .int l6), (7, .int l7), (8, .int l8), (9, .long l9), (11, .int 0), (12, .int 4)]) X dL_isRefused_617 (by decide) [1, 2, 3, 4, 5, 6, 7, 8, 9, 10, 11, 0] rfl ?_
                    exact c_f_L_isRefused_b619 X M Y hr _ hc hf
                · refine r_iconst (v := 0) (pc := 613) X dL_isRefused_613 (by decide) ?_
                  refine r_istore (pc := 614) (lv' := [(0, .ref (B + 0)), (1, .ref (B + 42)), (2, .ref (B + 39)), (3, .int l3), (4, .int l4), (5, .int l5), (6, .int l6), (7, .int l7), (8, .int l8), (9, .long l9), (11, .int 0)]) X dL_isRefused_614 (by decide) [1, 2, 3, 4, 5, 6, 7, 8, 9, 10, 0] rfl ?_
                  refine r_iconst (v := 4) (pc := 616) X dL_isRefused_616 (by decide) ?_
                  refine r_istore (pc := 617) (lv' := [(0, .ref (B + 0)), (1, .ref (B + 42)), (2, .ref (B + 39)), (3, .int l3), (4, .int l4), (5, .int l5), (6, .int l6), (7, .int l7), (8, .int l8), (9, .long l9), (11, .int 0), (12, .int 4)]) X dL_isRefused_617 (by decide) [1, 2, 3, 4, 5, 6, 7, 8, 9, 10, 11, 0] rfl ?_
                  exact c_f_L_isRefused_b619 X M Y hr _ hc hf
              · refine r_iconst (v := 0) (pc := 613) X dL_isRefused_613 (by decide) ?_
                refine r_istore (pc := 614) (lv' := [(0, .ref (B + 0)), (1, .ref (B + 42)), (2, .ref (B + 39)), (3, .int l3), (4, .int l4), (5, .int l5), (6, .int l6), (7, .int l7), (8, .int l8), (9, .long l9), (11, .int 0)]) X dL_isRefused_614 (by decide) [1, 2, 3, 4, 5, 6, 7, 8, 9, 10, 0] rfl ?_
                refine r_iconst (v := 4) (pc := 616) X dL_isRefused_616 (by decide) ?_
                refine r_istore (pc := 617) (lv' := [(0, .ref (B + 0)), (1, .ref (B + 42)), (2, .ref (B + 39)), (3, .int l3), (4, .int l4), (5, .int l5), (6, .int l6), (7, .int l7), (8, .int l8), (9, .long l9), (11, .int 0), (12, .int 4)]) X dL_isRefused_617 (by decide) [1, 2, 3, 4, 5, 6, 7, 8, 9, 10, 11, 0] rfl ?_
                exact c_f_L_isRefused_b619 X M Y hr _ hc hf
            · refine r_iconst (v := 0) (pc := 613) X dL_isRefused_613 (by decide) ?_
              refine r_istore (pc := 614) (lv' := [(0, .ref (B + 0)), (1, .ref (B + 42)), (2, .ref (B + 39)), (3, .int l3), (4, .int l4), (5, .int l5), (6, .int l6), (7, .int l7), (8, .int l8), (9, .long l9), (11, .int 0)]) X dL_isRefused_614 (by decide) [1, 2, 3, 4, 5, 6, 7, 8, 9, 10, 0] rfl ?_
              refine r_iconst (v := 4) (pc := 616) X dL_isRefused_616 (by decide) ?_
              refine r_istore (pc := 617) (lv' := [(0, .ref (B + 0)), (1, .ref (B + 42)), (2, .ref (B + 39)), (3, .int l3), (4, .int l4), (5, .int l5), (6, .int l6), (7, .int l7), (8, .int l8), (9, .long l9), (11, .int 0), (12, .int 4)]) X dL_isRefused_617 (by decide) [1, 2, 3, 4, 5, 6, 7, 8, 9, 10, 11, 0] rfl ?_
              exact c_f_L_isRefused_b619 X M Y hr _ hc hf
          · refine r_iconst (v := 0) (pc := 613) X dL_isRefused_613 (by decide) ?_
            refine r_istore (pc := 614) (lv' := [(0, .ref (B + 0)), (1, .ref (B + 42)), (2, .ref (B + 39)), (3, .int l3), (4, .int l4), (5, .int l5), (6, .int l6), (7, .int l7), (8, .int l8), (9, .long l9), (11, .int 0)]) X dL_isRefused_614 (by decide) [1, 2, 3, 4, 5, 6, 7, 8, 9, 10, 0] rfl ?_
            refine r_iconst (v := 4) (pc := 616) X dL_isRefused_616 (by decide) ?_
            refine r_istore (pc := 617) (lv' := [(0, .ref (B + 0)), (1, .ref (B + 42)), (2, .ref (B + 39)), (3, .int l3), (4, .int l4), (5, .int l5), (6, .int l6), (7, .int l7), (8, .int l8), (9, .long l9), (11, .int 0), (12, .int 4)]) X dL_isRefused_617 (by decide) [1, 2, 3, 4, 5, 6, 7, 8, 9, 10, 11, 0] rfl ?_
            exact c_f_L_isRefused_b619 X M Y hr _ hc hf
        · refine r_iconst (v := 0) (pc := 613) X dL_isRefused_613 (by decide) ?_
          refine r_istore (pc := 614) (lv' := [(0, .ref (B + 0)), (1, .ref (B + 42)), (2, .ref (B + 39)), (3, .int l3), (4, .int l4), (5, .int l5), (6, .int l6), (7, .int l7), (8, .int l8), (9, .long l9), (11, .int 0)]) X dL_isRefused_614 (by decide) [1, 2, 3, 4, 5, 6, 7, 8, 9, 10, 0] rfl ?_
          refine r_iconst (v := 4) (pc := 616) X dL_isRefused_616 (by decide) ?_
          refine r_istore (pc := 617) (lv' := [(0, .ref (B + 0)), (1, .ref (B + 42)), (2, .ref (B + 39)), (3, .int l3), (4, .int l4), (5, .int l5), (6, .int l6), (7, .int l7), (8, .int l8), (9, .long l9), (11, .int 0), (12, .int 4)]) X dL_isRefused_617 (by decide) [1, 2, 3, 4, 5, 6, 7, 8, 9, 10, 11, 0] rfl ?_
          exact c_f_L_isRefused_b619 X M Y hr _ hc hf
      · refine r_iconst (v := 0) (pc := 613) X dL_isRefused_613 (by decide) ?_
        refine r_istore (pc := 614) (lv' := [(0, .ref (B + 0)), (1, .ref (B + 42)), (2, .ref (B + 39)), (3, .int l3), (4, .int l4), (5, .int l5), (6, .int l6), (7, .int l7), (8, .int l8), (9, .long l9), (11, .int 0)]) X dL_isRefused_614 (by decide) [1, 2, 3, 4, 5, 6, 7, 8, 9, 10, 0] rfl ?_
        refine r_iconst (v := 4) (pc := 616) X dL_isRefused_616 (by decide) ?_
        refine r_istore (pc := 617) (lv' := [(0, .ref (B + 0)), (1, .ref (B + 42)), (2, .ref (B + 39)), (3, .int l3), (4, .int l4), (5, .int l5), (6, .int l6), (7, .int l7), (8, .int l8), (9, .long l9), (11, .int 0), (12, .int 4)]) X dL_isRefused_617 (by decide) [1, 2, 3, 4, 5, 6, 7, 8, 9, 10, 11, 0] rfl ?_
        exact c_f_L_isRefused_b619 X M Y hr _ hc hf
    · refine r_iconst (v := 0) (pc := 613) X dL_isRefused_613 (by decide) ?_
      refine r_istore (pc := 614) (lv' := [(0, .ref (B + 0)), (1, .ref (B + 42)), (2, .ref (B + 39)), (3, .int l3), (4, .int l4), (5, .int l5), (6, .int l6), (7, .int l7), (8, .int l8), (9, .long l9), (11, .int 0)]) X dL_isRefused_614 (by decide) [1, 2, 3, 4, 5, 6, 7, 8, 9, 10, 0] rfl ?_
      refine r_iconst (v := 4) (pc := 616) X dL_isRefused_616 (by decide) ?_
      refine r_istore (pc := 617) (lv' := [(0, .ref (B + 0)), (1, .ref (B + 42)), (2, .ref (B + 39)), (3, .int l3), (4, .int l4), (5, .int l5), (6, .int l6), (7, .int l7), (8, .int l8), (9, .long l9), (11, .int 0), (12, .int 4)]) X dL_isRefused_617 (by decide) [1, 2, 3, 4, 5, 6, 7, 8, 9, 10, 11, 0] rfl ?_
      exact c_f_L_isRefused_b619 X M Y hr _ hc hf
  · refine r_iconst (v := 0) (pc := 613) X dL_isRefused_613 (by decide) ?_
    refine r_istore (pc := 614) (lv' := [(0, .ref (B + 0)), (1, .ref (B + 42)), (2, .ref (B + 39)), (3, .int l3), (4, .int l4), (5, .int l5), (6, .int l6), (7, .int l7), (8, .int l8), (9, .long l9), (11, .int 0)]) X dL_isRefused_614 (by decide) [1, 2, 3, 4, 5, 6, 7, 8, 9, 10, 0] rfl ?_
    refine r_iconst (v := 4) (pc := 616) X dL_isRefused_616 (by decide) ?_
    refine r_istore (pc := 617) (lv' := [(0, .ref (B + 0)), (1, .ref (B + 42)), (2, .ref (B + 39)), (3, .int l3), (4, .int l4), (5, .int l5), (6, .int l6), (7, .int l7), (8, .int l8), (9, .long l9), (11, .int 0), (12, .int 4)]) X dL_isRefused_617 (by decide) [1, 2, 3, 4, 5, 6, 7, 8, 9, 10, 11, 0] rfl ?_
    exact c_f_L_isRefused_b619 X M Y hr _ hc hf
set_option maxHeartbeats 1000000 in
theorem c_f_L_isRefused_b256 {F Z : Nat} {c0 : Nat} {Γ : Ga} {D : DD} {B : Nat} {r : Int32} {s' : St} (X : Cx Γ RL cL_isRefused 13 D B (RMg Z c0 804 16500)) (M : RLe (RMg Z c0 804 16500) Z 0 0 c0 804 16500) (Y : Xy Γ B) (hr : (Gme Γ).sig.returnType = (some .boolean)) {s : St} {l3 : Int32} {l4 : Int32} {l5 : Int32} {l6 : Int32} {l7 : Int32} {l8 : Int32} {l9 : Int64} {t1 : Int32} {t2 : Int32} {t3 : Int32} {t4 : Int32} (hc : Hc c0 Z s) (hf : f_L_isRefused_b256 F Z s l3 l4 l5 l6 l7 l8 l9 t1 t2 t3 t4 = some (r, s')) : V Γ D B true 13 (QX Γ D B true s' (.inl (some (.int r))) (64 * (ct s' - c0)) (768 * (ct s' - c0))) (kg 0 c0 s) (ng 0 c0 s) s 256 [(0, .ref (B + 0)), (1, .ref (B + 42)), (2, .ref (B + 39)), (3, .int l3), (4, .int l4), (5, .int l5), (6, .int l6), (7, .int l7), (8, .int l8), (9, .long l9)] [.int t4, .int t3, .int t2, .int t1, .ref (B + 0)] := by
  unfold f_L_isRefused_b256 at hf
  refine r_iconst (v := 0) (pc := 256) X dL_isRefused_256 (by decide) ?_
  refine bnd hf (fun x12 h12 hf => ?_)
  refine ifo hf (fun hz hf => ?_)
  refine y_callWSi (As := [.ref (B + 0), .int t1, .int t2, .int t3, .int t4, .int 0]) (st := []) (pc := 257) X M Y hc (c_f_L_act h12 hc.2) rfl w_437 w_438 w_35 w_439 hdS_L_act (by decide) hz (Nat.le_of_ble_eq_true rfl) dL_isRefused_257 rfl (fun hc => ?_)
  refine r_sipush (v := -1242) (pc := 260) X dL_isRefused_260 (by decide) ?_
  refine b_icmp_ne (tgt := 613) (pc := 263) X dL_isRefused_263 (by decide) hf (fun hf => ?_) (fun hf => ?_)
  · refine r_aload_n (x := some 0) (pc := 266) X dL_isRefused_266 0 rfl ?_
    refine r_iconst (v := 2) (pc := 267) X dL_isRefused_267 (by decide) ?_
    refine r_iconst (v := 0) (pc := 268) X dL_isRefused_268 (by decide) ?_
    refine r_iconst (v := 0) (pc := 269) X dL_isRefused_269 (by decide) ?_
    refine r_iconst (v := 0) (pc := 270) X dL_isRefused_270 (by decide) ?_
    refine r_iload (pc := 271) X dL_isRefused_271 4 rfl ?_
    refine b_if_eq (tgt := 285) (pc := 273) X dL_isRefused_273 (by decide) hf (fun hf => ?_) (fun hf => ?_)
    · refine r_aload_n (x := some 0) (pc := 285) X dL_isRefused_285 0 rfl ?_
      refine bnd hf (fun x13 h13 hf => ?_)
      refine y_callVi (As := []) (st := [.int 0, .int 0, .int 0, .int 2, .ref (B + 0)]) (pc := 286) X M hc (c_f_P_now h13) rfl w_317 w_318 w_319 w_36 w_320 hdV_X10_now (Rc.s rfl ce_0) (by decide) (Nat.le_of_ble_eq_true rfl) dL_isRefused_286 rfl hf (fun s14 hc hf => ?_)
      refine r_iconst (v := 1) (pc := 289) X dL_isRefused_289 (by decide) ?_
      refine r_iadd (pc := 290) X dL_isRefused_290 ?_
      refine r_iload_n (pc := 291) X dL_isRefused_291 3 rfl ?_
      refine r_bipush (v := 30) (pc := 292) X dL_isRefused_292 (by decide) ?_
      refine r_irem (pc := 294) X dL_isRefused_294 (by decide) ?_
      refine r_iadd (pc := 295) X dL_isRefused_295 ?_
      exact c_f_L_isRefused_b296 X M Y hr hc hf
    · refine r_iconst (v := -1) (pc := 276) X dL_isRefused_276 (by decide) ?_
      refine r_iload_n (pc := 277) X dL_isRefused_277 3 rfl ?_
      refine r_bipush (v := 30) (pc := 278) X dL_isRefused_278 (by decide) ?_
      refine r_irem (pc := 280) X dL_isRefused_280 (by decide) ?_
      refine r_isub (pc := 281) X dL_isRefused_281 ?_
      refine r_goto (tgt := 296) (pc := 282) X dL_isRefused_282 (by decide) ?_
      exact c_f_L_isRefused_b296 X M Y hr hc hf
  · refine r_iconst (v := 0) (pc := 613) X dL_isRefused_613 (by decide) ?_
    refine r_istore (pc := 614) (lv' := [(0, .ref (B + 0)), (1, .ref (B + 42)), (2, .ref (B + 39)), (3, .int l3), (4, .int l4), (5, .int l5), (6, .int l6), (7, .int l7), (8, .int l8), (9, .long l9), (11, .int 0)]) X dL_isRefused_614 (by decide) [1, 2, 3, 4, 5, 6, 7, 8, 9, 10, 0] rfl ?_
    refine r_iconst (v := 4) (pc := 616) X dL_isRefused_616 (by decide) ?_
    refine r_istore (pc := 617) (lv' := [(0, .ref (B + 0)), (1, .ref (B + 42)), (2, .ref (B + 39)), (3, .int l3), (4, .int l4), (5, .int l5), (6, .int l6), (7, .int l7), (8, .int l8), (9, .long l9), (11, .int 0), (12, .int 4)]) X dL_isRefused_617 (by decide) [1, 2, 3, 4, 5, 6, 7, 8, 9, 10, 11, 0] rfl ?_
    exact c_f_L_isRefused_b619 X M Y hr _ hc hf
set_option maxHeartbeats 1000000 in
theorem c_f_L_isRefused_b222 {F Z : Nat} {c0 : Nat} {Γ : Ga} {D : DD} {B : Nat} {r : Int32} {s' : St} (X : Cx Γ RL cL_isRefused 13 D B (RMg Z c0 804 16500)) (M : RLe (RMg Z c0 804 16500) Z 0 0 c0 804 16500) (Y : Xy Γ B) (hr : (Gme Γ).sig.returnType = (some .boolean)) {s : St} {l3 : Int32} {l4 : Int32} {l5 : Int32} {l6 : Int32} {l7 : Int32} {l8 : Int32} {l9 : Int64} {t1 : Int32} {t2 : Int32} {t3 : Int32} (hc : Hc c0 Z s) (hf : f_L_isRefused_b222 F Z s l3 l4 l5 l6 l7 l8 l9 t1 t2 t3 = some (r, s')) : V Γ D B true 13 (QX Γ D B true s' (.inl (some (.int r))) (64 * (ct s' - c0)) (768 * (ct s' - c0))) (kg 0 c0 s) (ng 0 c0 s) s 222 [(0, .ref (B + 0)), (1, .ref (B + 42)), (2, .ref (B + 39)), (3, .int l3), (4, .int l4), (5, .int l5), (6, .int l6), (7, .int l7), (8, .int l8), (9, .long l9)] [.int t3, .int t2, .int t1, .ref (B + 0)] := by
  unfold f_L_isRefused_b222 at hf
  refine r_iconst (v := 0) (pc := 222) X dL_isRefused_222 (by decide) ?_
  refine r_iconst (v := 0) (pc := 223) X dL_isRefused_223 (by decide) ?_
  refine bnd hf (fun x11 h11 hf => ?_)
  refine ifo hf (fun hz hf => ?_)
  refine y_callWSi (As := [.ref (B + 0), .int t1, .int t2, .int t3, .int 0, .int 0]) (st := []) (pc := 224) X M Y hc (c_f_L_act h11 hc.2) rfl w_437 w_438 w_35 w_439 hdS_L_act (by decide) hz (Nat.le_of_ble_eq_true rfl) dL_isRefused_224 rfl (fun hc => ?_)
  refine r_sipush (v := -1242) (pc := 227) X dL_isRefused_227 (by decide) ?_
  refine b_icmp_ne (tgt := 613) (pc := 230) X dL_isRefused_230 (by decide) hf (fun hf => ?_) (fun hf => ?_)
  · refine r_aload_n (x := some 0) (pc := 233) X dL_isRefused_233 0 rfl ?_
    refine r_iconst (v := 2) (pc := 234) X dL_isRefused_234 (by decide) ?_
    refine r_iconst (v := 0) (pc := 235) X dL_isRefused_235 (by decide) ?_
    refine r_iconst (v := 0) (pc := 236) X dL_isRefused_236 (by decide) ?_
    refine r_iload (pc := 237) X dL_isRefused_237 4 rfl ?_
    refine b_if_eq (tgt := 253) (pc := 239) X dL_isRefused_239 (by decide) hf (fun hf => ?_) (fun hf => ?_)
    · refine r_sipush (v := 1001) (pc := 253) X dL_isRefused_253 (by decide) ?_
      exact c_f_L_isRefused_b256 X M Y hr hc hf
    · refine r_sipush (v := -1001) (pc := 242) X dL_isRefused_242 (by decide) ?_
      refine r_iload_n (pc := 245) X dL_isRefused_245 3 rfl ?_
      refine r_bipush (v := 30) (pc := 246) X dL_isRefused_246 (by decide) ?_
      refine r_irem (pc := 248) X dL_isRefused_248 (by decide) ?_
      refine r_isub (pc := 249) X dL_isRefused_249 ?_
      refine r_goto (tgt := 256) (pc := 250) X dL_isRefused_250 (by decide) ?_
      exact c_f_L_isRefused_b256 X M Y hr hc hf
  · refine r_iconst (v := 0) (pc := 613) X dL_isRefused_613 (by decide) ?_
    refine r_istore (pc := 614) (lv' := [(0, .ref (B + 0)), (1, .ref (B + 42)), (2, .ref (B + 39)), (3, .int l3), (4, .int l4), (5, .int l5), (6, .int l6), (7, .int l7), (8, .int l8), (9, .long l9), (11, .int 0)]) X dL_isRefused_614 (by decide) [1, 2, 3, 4, 5, 6, 7, 8, 9, 10, 0] rfl ?_
    refine r_iconst (v := 4) (pc := 616) X dL_isRefused_616 (by decide) ?_
    refine r_istore (pc := 617) (lv' := [(0, .ref (B + 0)), (1, .ref (B + 42)), (2, .ref (B + 39)), (3, .int l3), (4, .int l4), (5, .int l5), (6, .int l6), (7, .int l7), (8, .int l8), (9, .long l9), (11, .int 0), (12, .int 4)]) X dL_isRefused_617 (by decide) [1, 2, 3, 4, 5, 6, 7, 8, 9, 10, 11, 0] rfl ?_
    exact c_f_L_isRefused_b619 X M Y hr _ hc hf
set_option maxHeartbeats 1000000 in
theorem c_f_L_isRefused_b191 {F Z : Nat} {c0 : Nat} {Γ : Ga} {D : DD} {B : Nat} {r : Int32} {s' : St} (X : Cx Γ RL cL_isRefused 13 D B (RMg Z c0 804 16500)) (M : RLe (RMg Z c0 804 16500) Z 0 0 c0 804 16500) (Y : Xy Γ B) (hr : (Gme Γ).sig.returnType = (some .boolean)) {s : St} {l3 : Int32} {l4 : Int32} {l5 : Int32} {l6 : Int32} {l7 : Int32} {l8 : Int32} {l9 : Int64} {t1 : Int32} {t2 : Int32} (hc : Hc c0 Z s) (hf : f_L_isRefused_b191 F Z s l3 l4 l5 l6 l7 l8 l9 t1 t2 = some (r, s')) : V Γ D B true 13 (QX Γ D B true s' (.inl (some (.int r))) (64 * (ct s' - c0)) (768 * (ct s' - c0))) (kg 0 c0 s) (ng 0 c0 s) s 191 [(0, .ref (B + 0)), (1, .ref (B + 42)), (2, .ref (B + 39)), (3, .int l3), (4, .int l4), (5, .int l5), (6, .int l6), (7, .int l7), (8, .int l8), (9, .long l9)] [.int t2, .int t1, .ref (B + 0)] := by
  unfold f_L_isRefused_b191 at hf
  refine r_iconst (v := 0) (pc := 191) X dL_isRefused_191 (by decide) ?_
  refine r_iconst (v := 0) (pc := 192) X dL_isRefused_192 (by decide) ?_
  refine r_iconst (v := 0) (pc := 193) X dL_isRefused_193 (by decide) ?_
  refine bnd hf (fun x10 h10 hf => ?_)
  refine ifo hf (fun hz hf => ?_)
  refine y_callWSi (As := [.ref (B + 0), .int t1, .int t2, .int 0, .int 0, .int 0]) (st := []) (pc := 194) X M Y hc (c_f_L_act h10 hc.2) rfl w_437 w_438 w_35 w_439 hdS_L_act (by decide) hz (Nat.le_of_ble_eq_true rfl) dL_isRefused_194 rfl (fun hc => ?_)
  refine r_sipush (v := -1242) (pc := 197) X dL_isRefused_197 (by decide) ?_
  refine b_icmp_ne (tgt := 613) (pc := 200) X dL_isRefused_200 (by decide) hf (fun hf => ?_) (fun hf => ?_)
  · refine r_aload_n (x := some 0) (pc := 203) X dL_isRefused_203 0 rfl ?_
    refine r_iconst (v := 2) (pc := 204) X dL_isRefused_204 (by decide) ?_
    refine r_iconst (v := 0) (pc := 205) X dL_isRefused_205 (by decide) ?_
    refine r_iload (pc := 206) X dL_isRefused_206 4 rfl ?_
    refine b_if_eq (tgt := 220) (pc := 208) X dL_isRefused_208 (by decide) hf (fun hf => ?_) (fun hf => ?_)
    · refine r_bipush (v := 6) (pc := 220) X dL_isRefused_220 (by decide) ?_
      exact c_f_L_isRefused_b222 X M Y hr hc hf
    · refine r_iconst (v := -1) (pc := 211) X dL_isRefused_211 (by decide) ?_
      refine r_iload_n (pc := 212) X dL_isRefused_212 3 rfl ?_
      refine r_bipush (v := 30) (pc := 213) X dL_isRefused_213 (by decide) ?_
      refine r_irem (pc := 215) X dL_isRefused_215 (by decide) ?_
      refine r_isub (pc := 216) X dL_isRefused_216 ?_
      refine r_goto (tgt := 222) (pc := 217) X dL_isRefused_217 (by decide) ?_
      exact c_f_L_isRefused_b222 X M Y hr hc hf
  · refine r_iconst (v := 0) (pc := 613) X dL_isRefused_613 (by decide) ?_
    refine r_istore (pc := 614) (lv' := [(0, .ref (B + 0)), (1, .ref (B + 42)), (2, .ref (B + 39)), (3, .int l3), (4, .int l4), (5, .int l5), (6, .int l6), (7, .int l7), (8, .int l8), (9, .long l9), (11, .int 0)]) X dL_isRefused_614 (by decide) [1, 2, 3, 4, 5, 6, 7, 8, 9, 10, 0] rfl ?_
    refine r_iconst (v := 4) (pc := 616) X dL_isRefused_616 (by decide) ?_
    refine r_istore (pc := 617) (lv' := [(0, .ref (B + 0)), (1, .ref (B + 42)), (2, .ref (B + 39)), (3, .int l3), (4, .int l4), (5, .int l5), (6, .int l6), (7, .int l7), (8, .int l8), (9, .long l9), (11, .int 0), (12, .int 4)]) X dL_isRefused_617 (by decide) [1, 2, 3, 4, 5, 6, 7, 8, 9, 10, 11, 0] rfl ?_
    exact c_f_L_isRefused_b619 X M Y hr _ hc hf
set_option maxHeartbeats 1000000 in
theorem c_f_L_isRefused_b161 {F Z : Nat} {c0 : Nat} {Γ : Ga} {D : DD} {B : Nat} {r : Int32} {s' : St} (X : Cx Γ RL cL_isRefused 13 D B (RMg Z c0 804 16500)) (M : RLe (RMg Z c0 804 16500) Z 0 0 c0 804 16500) (Y : Xy Γ B) (hr : (Gme Γ).sig.returnType = (some .boolean)) {s : St} {l3 : Int32} {l4 : Int32} {l5 : Int32} {l6 : Int32} {l7 : Int32} {l8 : Int32} {l9 : Int64} {t1 : Int32} {t2 : Int32} (hc : Hc c0 Z s) (hf : f_L_isRefused_b161 F Z s l3 l4 l5 l6 l7 l8 l9 t1 t2 = some (r, s')) : V Γ D B true 13 (QX Γ D B true s' (.inl (some (.int r))) (64 * (ct s' - c0)) (768 * (ct s' - c0))) (kg 0 c0 s) (ng 0 c0 s) s 161 [(0, .ref (B + 0)), (1, .ref (B + 42)), (2, .ref (B + 39)), (3, .int l3), (4, .int l4), (5, .int l5), (6, .int l6), (7, .int l7), (8, .int l8), (9, .long l9)] [.int t2, .int t1, .ref (B + 0)] := by
  unfold f_L_isRefused_b161 at hf
  refine r_iconst (v := 0) (pc := 161) X dL_isRefused_161 (by decide) ?_
  refine r_iconst (v := 0) (pc := 162) X dL_isRefused_162 (by decide) ?_
  refine r_iconst (v := 0) (pc := 163) X dL_isRefused_163 (by decide) ?_
  refine bnd hf (fun x9 h9 hf => ?_)
  refine ifo hf (fun hz hf => ?_)
  refine y_callWSi (As := [.ref (B + 0), .int t1, .int t2, .int 0, .int 0, .int 0]) (st := []) (pc := 164) X M Y hc (c_f_L_act h9 hc.2) rfl w_437 w_438 w_35 w_439 hdS_L_act (by decide) hz (Nat.le_of_ble_eq_true rfl) dL_isRefused_164 rfl (fun hc => ?_)
  refine r_sipush (v := -1242) (pc := 167) X dL_isRefused_167 (by decide) ?_
  refine b_icmp_ne (tgt := 613) (pc := 170) X dL_isRefused_170 (by decide) hf (fun hf => ?_) (fun hf => ?_)
  · refine r_aload_n (x := some 0) (pc := 173) X dL_isRefused_173 0 rfl ?_
    refine r_iconst (v := 2) (pc := 174) X dL_isRefused_174 (by decide) ?_
    refine r_iload (pc := 175) X dL_isRefused_175 4 rfl ?_
    refine b_if_eq (tgt := 189) (pc := 177) X dL_isRefused_177 (by decide) hf (fun hf => ?_) (fun hf => ?_)
    · refine r_bipush (v := 8) (pc := 189) X dL_isRefused_189 (by decide) ?_
      exact c_f_L_isRefused_b191 X M Y hr hc hf
    · refine r_iconst (v := -1) (pc := 180) X dL_isRefused_180 (by decide) ?_
      refine r_iload_n (pc := 181) X dL_isRefused_181 3 rfl ?_
      refine r_bipush (v := 30) (pc := 182) X dL_isRefused_182 (by decide) ?_
      refine r_irem (pc := 184) X dL_isRefused_184 (by decide) ?_
      refine r_isub (pc := 185) X dL_isRefused_185 ?_
      refine r_goto (tgt := 191) (pc := 186) X dL_isRefused_186 (by decide) ?_
      exact c_f_L_isRefused_b191 X M Y hr hc hf
  · refine r_iconst (v := 0) (pc := 613) X dL_isRefused_613 (by decide) ?_
    refine r_istore (pc := 614) (lv' := [(0, .ref (B + 0)), (1, .ref (B + 42)), (2, .ref (B + 39)), (3, .int l3), (4, .int l4), (5, .int l5), (6, .int l6), (7, .int l7), (8, .int l8), (9, .long l9), (11, .int 0)]) X dL_isRefused_614 (by decide) [1, 2, 3, 4, 5, 6, 7, 8, 9, 10, 0] rfl ?_
    refine r_iconst (v := 4) (pc := 616) X dL_isRefused_616 (by decide) ?_
    refine r_istore (pc := 617) (lv' := [(0, .ref (B + 0)), (1, .ref (B + 42)), (2, .ref (B + 39)), (3, .int l3), (4, .int l4), (5, .int l5), (6, .int l6), (7, .int l7), (8, .int l8), (9, .long l9), (11, .int 0), (12, .int 4)]) X dL_isRefused_617 (by decide) [1, 2, 3, 4, 5, 6, 7, 8, 9, 10, 11, 0] rfl ?_
    exact c_f_L_isRefused_b619 X M Y hr _ hc hf
set_option maxHeartbeats 1000000 in
theorem c_f_L_isRefused_b126 {F Z : Nat} {c0 : Nat} {Γ : Ga} {D : DD} {B : Nat} {r : Int32} {s' : St} (X : Cx Γ RL cL_isRefused 13 D B (RMg Z c0 804 16500)) (M : RLe (RMg Z c0 804 16500) Z 0 0 c0 804 16500) (Y : Xy Γ B) (hr : (Gme Γ).sig.returnType = (some .boolean)) {s : St} {l3 : Int32} {l4 : Int32} {l5 : Int32} {l6 : Int32} {l7 : Int32} {l8 : Int32} {l9 : Int64} {t1 : Int32} {t2 : Int32} (hc : Hc c0 Z s) (hf : f_L_isRefused_b126 F Z s l3 l4 l5 l6 l7 l8 l9 t1 t2 = some (r, s')) : V Γ D B true 13 (QX Γ D B true s' (.inl (some (.int r))) (64 * (ct s' - c0)) (768 * (ct s' - c0))) (kg 0 c0 s) (ng 0 c0 s) s 126 [(0, .ref (B + 0)), (1, .ref (B + 42)), (2, .ref (B + 39)), (3, .int l3), (4, .int l4), (5, .int l5), (6, .int l6), (7, .int l7), (8, .int l8), (9, .long l9)] [.int t2, .int t1, .ref (B + 0)] := by
  unfold f_L_isRefused_b126 at hf
  refine r_iconst (v := 0) (pc := 126) X dL_isRefused_126 (by decide) ?_
  refine r_iconst (v := 0) (pc := 127) X dL_isRefused_127 (by decide) ?_
  refine r_iconst (v := 0) (pc := 128) X dL_isRefused_128 (by decide) ?_
  refine bnd hf (fun x8 h8 hf => ?_)
  refine ifo hf (fun hz hf => ?_)
  refine y_callWSi (As := [.ref (B + 0), .int t1, .int t2, .int 0, .int 0, .int 0]) (st := []) (pc := 129) X M Y hc (c_f_L_act h8 hc.2) rfl w_437 w_438 w_35 w_439 hdS_L_act (by decide) hz (Nat.le_of_ble_eq_true rfl) dL_isRefused_129 rfl (fun hc => ?_)
  refine r_sipush (v := -1242) (pc := 132) X dL_isRefused_132 (by decide) ?_
  refine b_icmp_ne (tgt := 613) (pc := 135) X dL_isRefused_135 (by decide) hf (fun hf => ?_) (fun hf => ?_)
  · refine r_aload_n (x := some 0) (pc := 138) X dL_isRefused_138 0 rfl ?_
    refine r_iconst (v := 1) (pc := 139) X dL_isRefused_139 (by decide) ?_
    refine r_iload (pc := 140) X dL_isRefused_140 4 rfl ?_
    refine b_if_eq (tgt := 154) (pc := 142) X dL_isRefused_142 (by decide) hf (fun hf => ?_) (fun hf => ?_)
    · refine r_bipush (v := 25) (pc := 154) X dL_isRefused_154 (by decide) ?_
      refine r_iload_n (pc := 156) X dL_isRefused_156 3 rfl ?_
      refine r_bipush (v := 30) (pc := 157) X dL_isRefused_157 (by decide) ?_
      refine r_irem (pc := 159) X dL_isRefused_159 (by decide) ?_
      refine r_iadd (pc := 160) X dL_isRefused_160 ?_
      exact c_f_L_isRefused_b161 X M Y hr hc hf
    · refine r_iconst (v := 0) (pc := 145) X dL_isRefused_145 (by decide) ?_
      refine r_iload_n (pc := 146) X dL_isRefused_146 3 rfl ?_
      refine r_bipush (v := 30) (pc := 147) X dL_isRefused_147 (by decide) ?_
      refine r_irem (pc := 149) X dL_isRefused_149 (by decide) ?_
      refine r_isub (pc := 150) X dL_isRefused_150 ?_
      refine r_goto (tgt := 161) (pc := 151) X dL_isRefused_151 (by decide) ?_
      exact c_f_L_isRefused_b161 X M Y hr hc hf
  · refine r_iconst (v := 0) (pc := 613) X dL_isRefused_613 (by decide) ?_
    refine r_istore (pc := 614) (lv' := [(0, .ref (B + 0)), (1, .ref (B + 42)), (2, .ref (B + 39)), (3, .int l3), (4, .int l4), (5, .int l5), (6, .int l6), (7, .int l7), (8, .int l8), (9, .long l9), (11, .int 0)]) X dL_isRefused_614 (by decide) [1, 2, 3, 4, 5, 6, 7, 8, 9, 10, 0] rfl ?_
    refine r_iconst (v := 4) (pc := 616) X dL_isRefused_616 (by decide) ?_
    refine r_istore (pc := 617) (lv' := [(0, .ref (B + 0)), (1, .ref (B + 42)), (2, .ref (B + 39)), (3, .int l3), (4, .int l4), (5, .int l5), (6, .int l6), (7, .int l7), (8, .int l8), (9, .long l9), (11, .int 0), (12, .int 4)]) X dL_isRefused_617 (by decide) [1, 2, 3, 4, 5, 6, 7, 8, 9, 10, 11, 0] rfl ?_
    exact c_f_L_isRefused_b619 X M Y hr _ hc hf
set_option maxHeartbeats 1000000 in
theorem c_f_L_isRefused_b84 {F Z : Nat} {c0 : Nat} {Γ : Ga} {D : DD} {B : Nat} {r : Int32} {s' : St} (X : Cx Γ RL cL_isRefused 13 D B (RMg Z c0 804 16500)) (M : RLe (RMg Z c0 804 16500) Z 0 0 c0 804 16500) (Y : Xy Γ B) (hr : (Gme Γ).sig.returnType = (some .boolean)) {s : St} {l3 : Int32} {l4 : Int32} {l5 : Int32} {l6 : Int32} {t0 : Int32} (hc : Hc c0 Z s) (hf : f_L_isRefused_b84 F Z s l3 l4 l5 l6 t0 = some (r, s')) : V Γ D B true 13 (QX Γ D B true s' (.inl (some (.int r))) (64 * (ct s' - c0)) (768 * (ct s' - c0))) (kg 0 c0 s) (ng 0 c0 s) s 84 [(0, .ref (B + 0)), (1, .ref (B + 42)), (2, .ref (B + 39)), (3, .int l3), (4, .int l4), (5, .int l5), (6, .int l6)] [.int t0] := by
  unfold f_L_isRefused_b84 at hf
  refine r_istore (pc := 84) (lv' := [(0, .ref (B + 0)), (1, .ref (B + 42)), (2, .ref (B + 39)), (3, .int l3), (4, .int l4), (5, .int l5), (6, .int l6), (7, .int t0)]) X dL_isRefused_84 (by decide) [1, 2, 3, 4, 5, 6, 7, 0] rfl ?_
  refine r_aload_n (x := some 0) (pc := 86) X dL_isRefused_86 0 rfl ?_
  refine bnd hf (fun x5 h5 hf => ?_)
  refine y_callVi (As := []) (st := []) (pc := 87) X M hc (c_f_P_now h5) rfl w_317 w_318 w_319 w_36 w_320 hdV_X10_now (Rc.s rfl ce_0) (by decide) (Nat.le_of_ble_eq_true rfl) dL_isRefused_87 rfl hf (fun s6 hc hf => ?_)
  refine r_bipush (v := 8) (pc := 90) X dL_isRefused_90 (by decide) ?_
  refine r_idiv (pc := 92) X dL_isRefused_92 (by decide) ?_
  refine r_istore (pc := 93) (lv' := [(0, .ref (B + 0)), (1, .ref (B + 42)), (2, .ref (B + 39)), (3, .int l3), (4, .int l4), (5, .int l5), (6, .int l6), (7, .int t0), (8, .int (x5.1 / 8))]) X dL_isRefused_93 (by decide) [1, 2, 3, 4, 5, 6, 7, 8, 0] rfl ?_
  refine r_aload_n (x := some 0) (pc := 95) X dL_isRefused_95 0 rfl ?_
  refine r_aload_n (x := some 39) (pc := 96) X dL_isRefused_96 2 rfl ?_
  refine bnd hf (fun x7 h7 hf => ?_)
  refine ifo hf (fun hz hf => ?_)
  refine y_callXSl (As := [.ref (B + 0), .ref (B + 39)]) (st := []) (pc := 97) X M Y hc (c_f_L_all h7 hc.2) rfl w_1022 w_1023 w_35 w_1024 hdS_L_all (by decide) hz (Nat.le_of_ble_eq_true rfl) dL_isRefused_97 rfl (fun hc => ?_)
  refine r_lstore (pc := 100) (lv' := [(0, .ref (B + 0)), (1, .ref (B + 42)), (2, .ref (B + 39)), (3, .int l3), (4, .int l4), (5, .int l5), (6, .int l6), (7, .int t0), (8, .int (x5.1 / 8)), (9, .long x7.1)]) X dL_isRefused_100 (by decide) [1, 2, 3, 4, 5, 6, 7, 8, 9, 0] rfl ?_
  refine r_aload_n (x := some 0) (pc := 102) X dL_isRefused_102 0 rfl ?_
  refine r_iconst (v := 0) (pc := 103) X dL_isRefused_103 (by decide) ?_
  refine r_iload (pc := 104) X dL_isRefused_104 4 rfl ?_
  refine b_if_eq (tgt := 119) (pc := 106) X dL_isRefused_106 (by decide) hf (fun hf => ?_) (fun hf => ?_)
  · refine r_bipush (v := 127) (pc := 119) X dL_isRefused_119 (by decide) ?_
    refine r_iload_n (pc := 121) X dL_isRefused_121 3 rfl ?_
    refine r_bipush (v := 30) (pc := 122) X dL_isRefused_122 (by decide) ?_
    refine r_irem (pc := 124) X dL_isRefused_124 (by decide) ?_
    refine r_iadd (pc := 125) X dL_isRefused_125 ?_
    exact c_f_L_isRefused_b126 X M Y hr hc hf
  · refine r_bipush (v := 31) (pc := 109) X dL_isRefused_109 (by decide) ?_
    refine r_iload_n (pc := 111) X dL_isRefused_111 3 rfl ?_
    refine r_bipush (v := 30) (pc := 112) X dL_isRefused_112 (by decide) ?_
    refine r_irem (pc := 114) X dL_isRefused_114 (by decide) ?_
    refine r_isub (pc := 115) X dL_isRefused_115 ?_
    refine r_goto (tgt := 126) (pc := 116) X dL_isRefused_116 (by decide) ?_
    exact c_f_L_isRefused_b126 X M Y hr hc hf
set_option maxHeartbeats 1000000 in
theorem c_f_L_isRefused_b59 {F Z : Nat} {c0 : Nat} {Γ : Ga} {D : DD} {B : Nat} {r : Int32} {s' : St} (X : Cx Γ RL cL_isRefused 13 D B (RMg Z c0 804 16500)) (M : RLe (RMg Z c0 804 16500) Z 0 0 c0 804 16500) (Y : Xy Γ B) (hr : (Gme Γ).sig.returnType = (some .boolean)) {s : St} {l3 : Int32} {l4 : Int32} {l5 : Int32} {t0 : Int32} (hc : Hc c0 Z s) (hf : f_L_isRefused_b59 F Z s l3 l4 l5 t0 = some (r, s')) : V Γ D B true 13 (QX Γ D B true s' (.inl (some (.int r))) (64 * (ct s' - c0)) (768 * (ct s' - c0))) (kg 0 c0 s) (ng 0 c0 s) s 59 [(0, .ref (B + 0)), (1, .ref (B + 42)), (2, .ref (B + 39)), (3, .int l3), (4, .int l4), (5, .int l5)] [.int t0] := by
  unfold f_L_isRefused_b59 at hf
  refine r_istore (pc := 59) (lv' := [(0, .ref (B + 0)), (1, .ref (B + 42)), (2, .ref (B + 39)), (3, .int l3), (4, .int l4), (5, .int l5), (6, .int t0)]) X dL_isRefused_59 (by decide) [1, 2, 3, 4, 5, 6, 0] rfl ?_
  refine r_iload (pc := 61) X dL_isRefused_61 4 rfl ?_
  refine b_if_eq (tgt := 75) (pc := 63) X dL_isRefused_63 (by decide) hf (fun hf => ?_) (fun hf => ?_)
  · refine r_aload_n (x := some 0) (pc := 75) X dL_isRefused_75 0 rfl ?_
    refine bnd hf (fun x3 h3 hf => ?_)
    refine y_callVi (As := []) (st := []) (pc := 76) X M hc (c_f_P_alarms h3) rfl w_428 w_429 w_430 w_36 w_431 hdV_X10_alarms (Rc.s rfl ce_0) (by decide) (Nat.le_of_ble_eq_true rfl) dL_isRefused_76 rfl hf (fun s4 hc hf => ?_)
    refine r_iload_n (pc := 79) X dL_isRefused_79 3 rfl ?_
    refine r_bipush (v := 30) (pc := 80) X dL_isRefused_80 (by decide) ?_
    refine r_irem (pc := 82) X dL_isRefused_82 (by decide) ?_
    refine r_iadd (pc := 83) X dL_isRefused_83 ?_
    exact c_f_L_isRefused_b84 X M Y hr hc hf
  · refine r_iconst (v := -1) (pc := 66) X dL_isRefused_66 (by decide) ?_
    refine r_iload_n (pc := 67) X dL_isRefused_67 3 rfl ?_
    refine r_bipush (v := 30) (pc := 68) X dL_isRefused_68 (by decide) ?_
    refine r_irem (pc := 70) X dL_isRefused_70 (by decide) ?_
    refine r_isub (pc := 71) X dL_isRefused_71 ?_
    refine r_goto (tgt := 84) (pc := 72) X dL_isRefused_72 (by decide) ?_
    exact c_f_L_isRefused_b84 X M Y hr hc hf
set_option maxHeartbeats 1000000 in
theorem c_f_L_isRefused_b35 {F Z : Nat} {c0 : Nat} {Γ : Ga} {D : DD} {B : Nat} {r : Int32} {s' : St} (X : Cx Γ RL cL_isRefused 13 D B (RMg Z c0 804 16500)) (M : RLe (RMg Z c0 804 16500) Z 0 0 c0 804 16500) (Y : Xy Γ B) (hr : (Gme Γ).sig.returnType = (some .boolean)) {s : St} {l3 : Int32} {l4 : Int32} {t0 : Int32} (hc : Hc c0 Z s) (hf : f_L_isRefused_b35 F Z s l3 l4 t0 = some (r, s')) : V Γ D B true 13 (QX Γ D B true s' (.inl (some (.int r))) (64 * (ct s' - c0)) (768 * (ct s' - c0))) (kg 0 c0 s) (ng 0 c0 s) s 35 [(0, .ref (B + 0)), (1, .ref (B + 42)), (2, .ref (B + 39)), (3, .int l3), (4, .int l4)] [.int t0] := by
  unfold f_L_isRefused_b35 at hf
  refine r_istore (pc := 35) (lv' := [(0, .ref (B + 0)), (1, .ref (B + 42)), (2, .ref (B + 39)), (3, .int l3), (4, .int l4), (5, .int t0)]) X dL_isRefused_35 (by decide) [1, 2, 3, 4, 5, 0] rfl ?_
  refine r_iload (pc := 37) X dL_isRefused_37 4 rfl ?_
  refine b_if_eq (tgt := 51) (pc := 39) X dL_isRefused_39 (by decide) hf (fun hf => ?_) (fun hf => ?_)
  · refine r_aload_n (x := some 39) (pc := 51) X dL_isRefused_51 2 rfl ?_
    refine r_iconst (v := 1) (pc := 52) X dL_isRefused_52 (by decide) ?_
    refine b_iald (pc := 53) X ce_39 dL_isRefused_53 hf (fun j2 hf => ?_)
    refine r_iload_n (pc := 54) X dL_isRefused_54 3 rfl ?_
    refine r_bipush (v := 30) (pc := 55) X dL_isRefused_55 (by decide) ?_
    refine r_irem (pc := 57) X dL_isRefused_57 (by decide) ?_
    refine r_iadd (pc := 58) X dL_isRefused_58 ?_
    exact c_f_L_isRefused_b59 X M Y hr hc hf
  · refine r_iconst (v := -1) (pc := 42) X dL_isRefused_42 (by decide) ?_
    refine r_iload_n (pc := 43) X dL_isRefused_43 3 rfl ?_
    refine r_bipush (v := 30) (pc := 44) X dL_isRefused_44 (by decide) ?_
    refine r_irem (pc := 46) X dL_isRefused_46 (by decide) ?_
    refine r_isub (pc := 47) X dL_isRefused_47 ?_
    refine r_goto (tgt := 59) (pc := 48) X dL_isRefused_48 (by decide) ?_
    exact c_f_L_isRefused_b59 X M Y hr hc hf
set_option maxHeartbeats 1000000 in
theorem c_f_L_isRefused_b11 {F Z : Nat} {c0 : Nat} {Γ : Ga} {D : DD} {B : Nat} {r : Int32} {s' : St} (X : Cx Γ RL cL_isRefused 13 D B (RMg Z c0 804 16500)) (M : RLe (RMg Z c0 804 16500) Z 0 0 c0 804 16500) (Y : Xy Γ B) (hr : (Gme Γ).sig.returnType = (some .boolean)) {s : St} {l3 : Int32} {t0 : Int32} (hc : Hc c0 Z s) (hf : f_L_isRefused_b11 F Z s l3 t0 = some (r, s')) : V Γ D B true 13 (QX Γ D B true s' (.inl (some (.int r))) (64 * (ct s' - c0)) (768 * (ct s' - c0))) (kg 0 c0 s) (ng 0 c0 s) s 11 [(0, .ref (B + 0)), (1, .ref (B + 42)), (2, .ref (B + 39)), (3, .int l3)] [.int t0] := by
  unfold f_L_isRefused_b11 at hf
  refine r_istore (pc := 11) (lv' := [(0, .ref (B + 0)), (1, .ref (B + 42)), (2, .ref (B + 39)), (3, .int l3), (4, .int t0)]) X dL_isRefused_11 (by decide) [1, 2, 3, 4, 0] rfl ?_
  refine r_iload (pc := 13) X dL_isRefused_13 4 rfl ?_
  refine b_if_eq (tgt := 27) (pc := 15) X dL_isRefused_15 (by decide) hf (fun hf => ?_) (fun hf => ?_)
  · refine r_aload_n (x := some 39) (pc := 27) X dL_isRefused_27 2 rfl ?_
    refine r_iconst (v := 0) (pc := 28) X dL_isRefused_28 (by decide) ?_
    refine b_iald (pc := 29) X ce_39 dL_isRefused_29 hf (fun j1 hf => ?_)
    refine r_iload_n (pc := 30) X dL_isRefused_30 3 rfl ?_
    refine r_bipush (v := 30) (pc := 31) X dL_isRefused_31 (by decide) ?_
    refine r_irem (pc := 33) X dL_isRefused_33 (by decide) ?_
    refine r_iadd (pc := 34) X dL_isRefused_34 ?_
    exact c_f_L_isRefused_b35 X M Y hr hc hf
  · refine r_iconst (v := -1) (pc := 18) X dL_isRefused_18 (by decide) ?_
    refine r_iload_n (pc := 19) X dL_isRefused_19 3 rfl ?_
    refine r_bipush (v := 30) (pc := 20) X dL_isRefused_20 (by decide) ?_
    refine r_irem (pc := 22) X dL_isRefused_22 (by decide) ?_
    refine r_isub (pc := 23) X dL_isRefused_23 ?_
    refine r_goto (tgt := 35) (pc := 24) X dL_isRefused_24 (by decide) ?_
    exact c_f_L_isRefused_b35 X M Y hr hc hf
set_option maxHeartbeats 1000000 in
theorem c_f_L_isRefused {F Z : Nat} {s : St} {p3 : Int32} {r : Int32} {s' : St} (hf : f_L_isRefused F Z s p3 = some (r, s')) (hz : ct s ≤ Z) : CX true yL_isRefused (Cond.code yL_isRefused cL_isRefused 13 (some .boolean)) 804 16500 (64 * (Z - ct s)) (768 * (Z - ct s)) (fun B => [.ref (B + 0), .ref (B + 42), .ref (B + 39), .int p3]) s (fun B => .inl (some (.int r))) s' (64 * (ct s' - ct s)) (768 * (ct s' - ct s)) := by
  refine CX.ofL (fun B => [(0, .ref (B + 0)), (1, .ref (B + 42)), (2, .ref (B + 39)), (3, .int p3)]) (by decide +kernel) (fun _ => rfl) (fun _ => (by simp [lg_sl, rfB_cat, catI, catL, catR])) (fun Γ D B X Y hr => ?_)
  have X : Cx Γ RL cL_isRefused 13 D B (RMg Z (ct s) 804 16500) := X
  have M : RLe (RMg Z (ct s) 804 16500) Z 0 0 (ct s) 804 16500 := RLe.rf
  have hc : Hc (ct s) Z s := ⟨Nat.le_refl _, hz⟩
  unfold f_L_isRefused at hf
  refine r_iload_n (pc := 0) X dL_isRefused_0 3 rfl ?_
  refine r_iconst (v := 2) (pc := 1) X dL_isRefused_1 (by decide) ?_
  refine r_irem (pc := 2) X dL_isRefused_2 (by decide) ?_
  refine b_if_ne (tgt := 10) (pc := 3) X dL_isRefused_3 (by decide) hf (fun hf => ?_) (fun hf => ?_)
  · refine r_iconst (v := 1) (pc := 6) X dL_isRefused_6 (by decide) ?_
    refine r_goto (tgt := 11) (pc := 7) X dL_isRefused_7 (by decide) ?_
    exact c_f_L_isRefused_b11 X M Y hr hc hf
  · refine r_iconst (v := 0) (pc := 10) X dL_isRefused_10 (by decide) ?_
    exact c_f_L_isRefused_b11 X M Y hr hc hf
