/-! f_Walker_valueOf -/
def HWK (R : Nat → St → Option Nat → Int32 → Int32 → Option (Int64 × St)) (fr lo : Nat) : Prop :=
  (∀ {s : St} {q : Option Nat} {a : Int32} {b : Int32} {r : Int64} {s' : St}, R 0 s q a b = some (r, s') → CC true yX9_valueOf (Cond.code yX9_valueOf cX9_valueOf 5 (some .long)) fr lo (fun B => [.ref (B + 30), rfB B q, .ref (B + 3), .int a, .int b]) s (fun B => some (.long r)) s' 0 0) ∧
  (∀ {s : St} {q : Option Nat} {a : Int32} {r : Int64} {s' : St}, R 1 s q a 0 = some (r, s') → CC true yX9_gathered (Cond.code yX9_gathered cX9_gathered 6 (some .long)) fr lo (fun B => [.ref (B + 30), rfB B q, .ref (B + 3), .int a]) s (fun B => some (.long r)) s' 0 0)
theorem dX9_valueOf_0 : decode cX9_valueOf 0 = .ok (.aload_n 1, 1) := by decide +kernel
theorem dX9_valueOf_1 : decode cX9_valueOf 1 = .ok (.ifnull 10, 3) := by decide +kernel
theorem dX9_valueOf_4 : decode cX9_valueOf 4 = .ok (.iload 4, 2) := by decide +kernel
theorem dX9_valueOf_6 : decode cX9_valueOf 6 = .ok (.bipush 40, 2) := by decide +kernel
theorem dX9_valueOf_8 : decode cX9_valueOf 8 = .ok (.if_icmp .le 5, 3) := by decide +kernel
theorem dX9_valueOf_11 : decode cX9_valueOf 11 = .ok (.lconst 0, 1) := by decide +kernel
theorem dX9_valueOf_12 : decode cX9_valueOf 12 = .ok (.lreturn, 1) := by decide +kernel
theorem dX9_valueOf_13 : decode cX9_valueOf 13 = .ok (.aload_n 1, 1) := by decide +kernel
theorem dX9_valueOf_14 : decode cX9_valueOf 14 = .ok (.getfield 22, 3) := by decide +kernel
theorem dX9_valueOf_17 : decode cX9_valueOf 17 = .ok (.invokestatic 28, 3) := by decide +kernel
theorem dX9_valueOf_20 : decode cX9_valueOf 20 = .ok (.ifCond .eq 14, 3) := by decide +kernel
theorem dX9_valueOf_23 : decode cX9_valueOf 23 = .ok (.aload_n 2, 1) := by decide +kernel
theorem dX9_valueOf_24 : decode cX9_valueOf 24 = .ok (.aload_n 1, 1) := by decide +kernel
theorem dX9_valueOf_25 : decode cX9_valueOf 25 = .ok (.getfield 22, 3) := by decide +kernel
theorem dX9_valueOf_28 : decode cX9_valueOf 28 = .ok (.iload_n 3, 1) := by decide +kernel
theorem dX9_valueOf_29 : decode cX9_valueOf 29 = .ok (.invokevirtual 32, 3) := by decide +kernel
theorem dX9_valueOf_32 : decode cX9_valueOf 32 = .ok (.i2l, 1) := by decide +kernel
theorem dX9_valueOf_33 : decode cX9_valueOf 33 = .ok (.lreturn, 1) := by decide +kernel
theorem dX9_valueOf_34 : decode cX9_valueOf 34 = .ok (.aload_n 1, 1) := by decide +kernel
theorem dX9_valueOf_35 : decode cX9_valueOf 35 = .ok (.getfield 22, 3) := by decide +kernel
theorem dX9_valueOf_38 : decode cX9_valueOf 38 = .ok (.invokestatic 38, 3) := by decide +kernel
theorem dX9_valueOf_41 : decode cX9_valueOf 41 = .ok (.ifCond .eq 12, 3) := by decide +kernel
theorem dX9_valueOf_44 : decode cX9_valueOf 44 = .ok (.aload_n 0, 1) := by decide +kernel
theorem dX9_valueOf_45 : decode cX9_valueOf 45 = .ok (.aload_n 1, 1) := by decide +kernel
theorem dX9_valueOf_46 : decode cX9_valueOf 46 = .ok (.aload_n 2, 1) := by decide +kernel
theorem dX9_valueOf_47 : decode cX9_valueOf 47 = .ok (.iload 4, 2) := by decide +kernel
theorem dX9_valueOf_49 : decode cX9_valueOf 49 = .ok (.invokevirtual 41, 3) := by decide +kernel
theorem dX9_valueOf_52 : decode cX9_valueOf 52 = .ok (.lreturn, 1) := by decide +kernel
theorem dX9_valueOf_53 : decode cX9_valueOf 53 = .ok (.aload_n 1, 1) := by decide +kernel
theorem dX9_valueOf_54 : decode cX9_valueOf 54 = .ok (.getfield 22, 3) := by decide +kernel
theorem dX9_valueOf_57 : decode cX9_valueOf 57 = .ok (.lookupswitch 82 #[(33, 57), (35, 35), (126, 41)], 35) := by decide +kernel
theorem dX9_valueOf_92 : decode cX9_valueOf 92 = .ok (.aload_n 1, 1) := by decide +kernel
theorem dX9_valueOf_93 : decode cX9_valueOf 93 = .ok (.getfield 45, 3) := by decide +kernel
theorem dX9_valueOf_96 : decode cX9_valueOf 96 = .ok (.i2l, 1) := by decide +kernel
theorem dX9_valueOf_97 : decode cX9_valueOf 97 = .ok (.lreturn, 1) := by decide +kernel
theorem dX9_valueOf_98 : decode cX9_valueOf 98 = .ok (.aload_n 0, 1) := by decide +kernel
theorem dX9_valueOf_99 : decode cX9_valueOf 99 = .ok (.aload_n 1, 1) := by decide +kernel
theorem dX9_valueOf_100 : decode cX9_valueOf 100 = .ok (.getfield 48, 3) := by decide +kernel
theorem dX9_valueOf_103 : decode cX9_valueOf 103 = .ok (.aload_n 2, 1) := by decide +kernel
theorem dX9_valueOf_104 : decode cX9_valueOf 104 = .ok (.iload_n 3, 1) := by decide +kernel
theorem dX9_valueOf_105 : decode cX9_valueOf 105 = .ok (.iload 4, 2) := by decide +kernel
theorem dX9_valueOf_107 : decode cX9_valueOf 107 = .ok (.iconst 1, 1) := by decide +kernel
theorem dX9_valueOf_108 : decode cX9_valueOf 108 = .ok (.iadd, 1) := by decide +kernel
theorem dX9_valueOf_109 : decode cX9_valueOf 109 = .ok (.invokevirtual 18, 3) := by decide +kernel
theorem dX9_valueOf_112 : decode cX9_valueOf 112 = .ok (.lneg, 1) := by decide +kernel
theorem dX9_valueOf_113 : decode cX9_valueOf 113 = .ok (.lreturn, 1) := by decide +kernel
theorem dX9_valueOf_114 : decode cX9_valueOf 114 = .ok (.aload_n 0, 1) := by decide +kernel
theorem dX9_valueOf_115 : decode cX9_valueOf 115 = .ok (.aload_n 1, 1) := by decide +kernel
theorem dX9_valueOf_116 : decode cX9_valueOf 116 = .ok (.getfield 48, 3) := by decide +kernel
theorem dX9_valueOf_119 : decode cX9_valueOf 119 = .ok (.aload_n 2, 1) := by decide +kernel
theorem dX9_valueOf_120 : decode cX9_valueOf 120 = .ok (.iload_n 3, 1) := by decide +kernel
theorem dX9_valueOf_121 : decode cX9_valueOf 121 = .ok (.iload 4, 2) := by decide +kernel
theorem dX9_valueOf_123 : decode cX9_valueOf 123 = .ok (.iconst 1, 1) := by decide +kernel
theorem dX9_valueOf_124 : decode cX9_valueOf 124 = .ok (.iadd, 1) := by decide +kernel
theorem dX9_valueOf_125 : decode cX9_valueOf 125 = .ok (.invokevirtual 18, 3) := by decide +kernel
theorem dX9_valueOf_128 : decode cX9_valueOf 128 = .ok (.lconst 0, 1) := by decide +kernel
theorem dX9_valueOf_129 : decode cX9_valueOf 129 = .ok (.lcmp, 1) := by decide +kernel
theorem dX9_valueOf_130 : decode cX9_valueOf 130 = .ok (.ifCond .ne 7, 3) := by decide +kernel
theorem dX9_valueOf_133 : decode cX9_valueOf 133 = .ok (.lconst 1, 1) := by decide +kernel
theorem dX9_valueOf_134 : decode cX9_valueOf 134 = .ok (.goto 4, 3) := by decide +kernel
theorem dX9_valueOf_137 : decode cX9_valueOf 137 = .ok (.lconst 0, 1) := by decide +kernel
theorem dX9_valueOf_138 : decode cX9_valueOf 138 = .ok (.lreturn, 1) := by decide +kernel
theorem dX9_valueOf_139 : decode cX9_valueOf 139 = .ok (.aload_n 1, 1) := by decide +kernel
theorem dX9_valueOf_140 : decode cX9_valueOf 140 = .ok (.getfield 22, 3) := by decide +kernel
theorem dX9_valueOf_143 : decode cX9_valueOf 143 = .ok (.aload_n 0, 1) := by decide +kernel
theorem dX9_valueOf_144 : decode cX9_valueOf 144 = .ok (.aload_n 1, 1) := by decide +kernel
theorem dX9_valueOf_145 : decode cX9_valueOf 145 = .ok (.getfield 48, 3) := by decide +kernel
theorem dX9_valueOf_148 : decode cX9_valueOf 148 = .ok (.aload_n 2, 1) := by decide +kernel
theorem dX9_valueOf_149 : decode cX9_valueOf 149 = .ok (.iload_n 3, 1) := by decide +kernel
theorem dX9_valueOf_150 : decode cX9_valueOf 150 = .ok (.iload 4, 2) := by decide +kernel
theorem dX9_valueOf_152 : decode cX9_valueOf 152 = .ok (.iconst 1, 1) := by decide +kernel
theorem dX9_valueOf_153 : decode cX9_valueOf 153 = .ok (.iadd, 1) := by decide +kernel
theorem dX9_valueOf_154 : decode cX9_valueOf 154 = .ok (.invokevirtual 18, 3) := by decide +kernel
theorem dX9_valueOf_157 : decode cX9_valueOf 157 = .ok (.aload_n 0, 1) := by decide +kernel
theorem dX9_valueOf_158 : decode cX9_valueOf 158 = .ok (.aload_n 1, 1) := by decide +kernel
theorem dX9_valueOf_159 : decode cX9_valueOf 159 = .ok (.getfield 52, 3) := by decide +kernel
theorem dX9_valueOf_162 : decode cX9_valueOf 162 = .ok (.aload_n 2, 1) := by decide +kernel
theorem dX9_valueOf_163 : decode cX9_valueOf 163 = .ok (.iload_n 3, 1) := by decide +kernel
theorem dX9_valueOf_164 : decode cX9_valueOf 164 = .ok (.iload 4, 2) := by decide +kernel
theorem dX9_valueOf_166 : decode cX9_valueOf 166 = .ok (.iconst 1, 1) := by decide +kernel
theorem dX9_valueOf_167 : decode cX9_valueOf 167 = .ok (.iadd, 1) := by decide +kernel
theorem dX9_valueOf_168 : decode cX9_valueOf 168 = .ok (.invokevirtual 18, 3) := by decide +kernel
theorem dX9_valueOf_171 : decode cX9_valueOf 171 = .ok (.invokestatic 55, 3) := by decide +kernel
theorem dX9_valueOf_174 : decode cX9_valueOf 174 = .ok (.lreturn, 1) := by decide +kernel
def f_Walker_valueOf (R : Nat → St → Option Nat → Int32 → Int32 → Option (Int64 × St)) (F : Nat) (s : St) (p1 : Option Nat) (p3 : Int32) (p4 : Int32) : Option (Int64 × St) :=
  if p1 = none then
    (some (0, s))
  else
    (if p4 ≤ 40 then
      ((dgo s p1 3).bind fun o1 => ((f_P_isField F s (o1.2.1 0)).bind fun x2 => (if x2.1 = 0 then
        ((dgo x2.2 p1 3).bind fun o3 => ((f_P_isAggregate F x2.2 (o3.2.1 0)).bind fun x4 => (if x4.1 = 0 then
          ((dgo x4.2 p1 3).bind fun o5 => (if o5.2.1 0 = 33 then
            ((dgo x4.2 p1 3).bind fun o6 => ((R 0 x4.2 (o6.2.2.1 2) p3 (p4 + 1)).bind fun x7 => (if x7.1 = 0 then
              (some (1, x7.2))
            else
              (some (0, x7.2)))))
          else if o5.2.1 0 = 35 then
            ((dgo x4.2 p1 3).bind fun o8 => (some (((o8.2.1 1).toInt64), x4.2)))
          else if o5.2.1 0 = 126 then
            ((dgo x4.2 p1 3).bind fun o9 => ((R 0 x4.2 (o9.2.2.1 2) p3 (p4 + 1)).bind fun x10 => (some ((-x10.1), x10.2))))
          else 
            ((dgo x4.2 p1 3).bind fun o11 => ((dgo x4.2 p1 3).bind fun o12 => ((R 0 x4.2 (o12.2.2.1 2) p3 (p4 + 1)).bind fun x13 => ((dgo x13.2 p1 3).bind fun o14 => ((R 0 x13.2 (o14.2.2.1 3) p3 (p4 + 1)).bind fun x15 => ((f_P_combined F x15.2 (o11.2.1 0) x13.1 x15.1).bind fun x16 => (some (x16.1, x16.2))))))))))
        else
          ((R 1 x4.2 p1 p4 0).bind fun x17 => (some (x17.1, x17.2))))))
      else
        ((dgo x2.2 p1 3).bind fun o18 => ((f_Logs_fieldOf F x2.2 (o18.2.1 0) p3).bind fun x19 => (some (x19.1.toInt64, x19.2)))))))
    else
      (some (0, s)))
set_option maxHeartbeats 1000000 in
theorem c_f_Walker_valueOf {R : Nat → St → Option Nat → Int32 → Int32 → Option (Int64 × St)} {fr lo : Nat} {F : Nat} {s : St} {p1 : Option Nat} {p3 : Int32} {p4 : Int32} {r : Int64} {s' : St} (hR : HWK R fr lo) (hf : f_Walker_valueOf R F s p1 p3 p4 = some (r, s')) : CC true yX9_valueOf (Cond.code yX9_valueOf cX9_valueOf 5 (some .long)) (fr + 2) (lo + 46) (fun B => [.ref (B + 30), rfB B p1, .ref (B + 3), .int p3, .int p4]) s (fun B => (some (.long r))) s' 0 0 := by
  refine CC.of (fun B => [(0, .ref (B + 30)), (1, rfB B p1), (2, .ref (B + 3)), (3, .int p3), (4, .int p4)]) (by decide +kernel) (fun _ => (by simp [lv_args, rfB_cat, catI, catL, catR])) (fun _ => (by simp [lg_sl, rfB_cat, catI, catL, catR])) (fun Γ D B X hr hin => ?_)
  have X : Cx Γ RX9 cX9_valueOf 5 D B { frames := fr + 2, cells := 0, slots := 0, locals := lo + 46 } := X
  unfold f_Walker_valueOf at hf
  refine r_aload_n (pc := 0) X dX9_valueOf_0 1 rfl ?_
  refine b_ifnull (tgt := 11) (pc := 1) X dX9_valueOf_1 (by decide) hf (fun hf => ?_) (fun hf => ?_)
  · refine r_lconst (v := 0) (pc := 11) X dX9_valueOf_11 (by decide) ?_
    exact e_lret (pc := 12) X hr hf (Nat.le_refl _) (Nat.le_refl _) dX9_valueOf_12
  · refine r_iload (pc := 4) X dX9_valueOf_4 4 rfl ?_
    refine r_bipush (v := 40) (pc := 6) X dX9_valueOf_6 (by decide) ?_
    refine b_icmp_le (tgt := 13) (pc := 8) X dX9_valueOf_8 (by decide) hf (fun hf => ?_) (fun hf => ?_)
    · refine r_aload_n (pc := 13) X dX9_valueOf_13 1 rfl ?_
      refine b_dgetI (j := 0) (pc := 14) X rfl inT3 (by decide) w_658 rfl dX9_valueOf_14 hf (fun o1 hf => ?_)
      refine bnd hf (fun x2 h2 hf => ?_)
      refine r_callSNi (As := [.int (o1.2.1 0)]) (st := []) (pc := 17) X (c_f_P_isField h2) rfl wn_552 w_553 w_36 w_554 hdS_X10_isField (by dsimp only; omega) (Nat.zero_le _) (Nat.zero_le _) (Nat.le_of_ble_eq_true rfl) dX9_valueOf_17 rfl ?_
      refine b_if_eq (tgt := 34) (pc := 20) X dX9_valueOf_20 (by decide) hf (fun hf => ?_) (fun hf => ?_)
      · refine r_aload_n (pc := 34) X dX9_valueOf_34 1 rfl ?_
        refine b_dgetI (j := 0) (pc := 35) X rfl inT3 (by decide) w_658 rfl dX9_valueOf_35 hf (fun o3 hf => ?_)
        refine bnd hf (fun x4 h4 hf => ?_)
        refine r_callSNi (As := [.int (o3.2.1 0)]) (st := []) (pc := 38) X (c_f_P_isAggregate h4) rfl wn_559 w_560 w_36 w_561 hdS_X10_isAggregate (by dsimp only; omega) (Nat.zero_le _) (Nat.zero_le _) (Nat.le_of_ble_eq_true rfl) dX9_valueOf_38 rfl ?_
        refine b_if_eq (tgt := 53) (pc := 41) X dX9_valueOf_41 (by decide) hf (fun hf => ?_) (fun hf => ?_)
        · refine r_aload_n (pc := 53) X dX9_valueOf_53 1 rfl ?_
          refine b_dgetI (j := 0) (pc := 54) X rfl inT3 (by decide) w_658 rfl dX9_valueOf_54 hf (fun o5 hf => ?_)
          refine sw hf (fun e0 hf => ?_) (fun e0 hf => ?_)
          · refine r_lookup (tgt := 114) (pc := 57) X dX9_valueOf_57 (by decide) (by rw [e0] <;> rfl) (by decide) ?_
            refine r_aload_n (x := some 30) (pc := 114) X dX9_valueOf_114 0 rfl ?_
            refine r_aload_n (pc := 115) X dX9_valueOf_115 1 rfl ?_
            refine b_dgetR (j := 2) (pc := 116) X rfl inT3 (by decide) w_662 rfl dX9_valueOf_116 hf (fun o6 hf => ?_)
            refine r_aload_n (x := some 3) (pc := 119) X dX9_valueOf_119 2 rfl ?_
            refine r_iload_n (pc := 120) X dX9_valueOf_120 3 rfl ?_
            refine r_iload (pc := 121) X dX9_valueOf_121 4 rfl ?_
            refine r_iconst (v := 1) (pc := 123) X dX9_valueOf_123 (by decide) ?_
            refine r_iadd (pc := 124) X dX9_valueOf_124 ?_
            refine bnd hf (fun x7 h7 hf => ?_)
            refine r_callVl (As := [rfB B (o6.2.2.1 2), .ref (B + 3), .int p3, .int (p4 + 1)]) (st := []) (pc := 125) X (hR.1 h7) rfl w_548 w_550 w_8 w_43 w_551 hdV_X9_valueOf (Rc.s rfl ce_30) (by dsimp only; omega) (Nat.zero_le _) (Nat.zero_le _) (Nat.le_of_ble_eq_true rfl) dX9_valueOf_125 rfl ?_
            refine r_lconst (v := 0) (pc := 128) X dX9_valueOf_128 (by decide) ?_
            refine b_lcmp_ne (tgt := 137) (pc := 129) X dX9_valueOf_129 dX9_valueOf_130 (by decide) hf (fun hf => ?_) (fun hf => ?_)
            · refine r_lconst (v := 1) (pc := 133) X dX9_valueOf_133 (by decide) ?_
              refine r_goto (tgt := 138) (pc := 134) X dX9_valueOf_134 (by decide) ?_
              exact e_lret (pc := 138) X hr hf (Nat.le_refl _) (Nat.le_refl _) dX9_valueOf_138
            · refine r_lconst (v := 0) (pc := 137) X dX9_valueOf_137 (by decide) ?_
              exact e_lret (pc := 138) X hr hf (Nat.le_refl _) (Nat.le_refl _) dX9_valueOf_138
          refine sw hf (fun e1 hf => ?_) (fun e1 hf => ?_)
          · refine r_lookup (tgt := 92) (pc := 57) X dX9_valueOf_57 (by decide) (by rw [e1] <;> rfl) (by decide) ?_
            refine r_aload_n (pc := 92) X dX9_valueOf_92 1 rfl ?_
            refine b_dgetI (j := 1) (pc := 93) X rfl inT3 (by decide) w_660 rfl dX9_valueOf_93 hf (fun o8 hf => ?_)
            refine r_i2l (pc := 96) X dX9_valueOf_96 ?_
            exact e_lret (pc := 97) X hr hf (Nat.le_refl _) (Nat.le_refl _) dX9_valueOf_97
          refine sw hf (fun e2 hf => ?_) (fun e2 hf => ?_)
          · refine r_lookup (tgt := 98) (pc := 57) X dX9_valueOf_57 (by decide) (by rw [e2] <;> rfl) (by decide) ?_
            refine r_aload_n (x := some 30) (pc := 98) X dX9_valueOf_98 0 rfl ?_
            refine r_aload_n (pc := 99) X dX9_valueOf_99 1 rfl ?_
            refine b_dgetR (j := 2) (pc := 100) X rfl inT3 (by decide) w_662 rfl dX9_valueOf_100 hf (fun o9 hf => ?_)
            refine r_aload_n (x := some 3) (pc := 103) X dX9_valueOf_103 2 rfl ?_
            refine r_iload_n (pc := 104) X dX9_valueOf_104 3 rfl ?_
            refine r_iload (pc := 105) X dX9_valueOf_105 4 rfl ?_
            refine r_iconst (v := 1) (pc := 107) X dX9_valueOf_107 (by decide) ?_
            refine r_iadd (pc := 108) X dX9_valueOf_108 ?_
            refine bnd hf (fun x10 h10 hf => ?_)
            refine r_callVl (As := [rfB B (o9.2.2.1 2), .ref (B + 3), .int p3, .int (p4 + 1)]) (st := []) (pc := 109) X (hR.1 h10) rfl w_548 w_550 w_8 w_43 w_551 hdV_X9_valueOf (Rc.s rfl ce_30) (by dsimp only; omega) (Nat.zero_le _) (Nat.zero_le _) (Nat.le_of_ble_eq_true rfl) dX9_valueOf_109 rfl ?_
            refine r_lneg (pc := 112) X dX9_valueOf_112 ?_
            exact e_lret (pc := 113) X hr hf (Nat.le_refl _) (Nat.le_refl _) dX9_valueOf_113
          · refine r_lookup (off := 82) (tgt := 139) (pc := 57) X dX9_valueOf_57 (by decide) ((lv_osw e0 (by decide)).trans ((lv_osw e1 (by decide)).trans ((lv_osw e2 (by decide)).trans rfl))) (by decide) ?_
            refine r_aload_n (pc := 139) X dX9_valueOf_139 1 rfl ?_
            refine b_dgetI (j := 0) (pc := 140) X rfl inT3 (by decide) w_658 rfl dX9_valueOf_140 hf (fun o11 hf => ?_)
            refine r_aload_n (x := some 30) (pc := 143) X dX9_valueOf_143 0 rfl ?_
            refine r_aload_n (pc := 144) X dX9_valueOf_144 1 rfl ?_
            refine b_dgetR (j := 2) (pc := 145) X rfl inT3 (by decide) w_662 rfl dX9_valueOf_145 hf (fun o12 hf => ?_)
            refine r_aload_n (x := some 3) (pc := 148) X dX9_valueOf_148 2 rfl ?_
            refine r_iload_n (pc := 149) X dX9_valueOf_149 3 rfl ?_
            refine r_iload (pc := 150) X dX9_valueOf_150 4 rfl ?_
            refine r_iconst (v := 1) (pc := 152) X dX9_valueOf_152 (by decide) ?_
            refine r_iadd (pc := 153) X dX9_valueOf_153 ?_
            refine bnd hf (fun x13 h13 hf => ?_)
            refine r_callVl (As := [rfB B (o12.2.2.1 2), .ref (B + 3), .int p3, .int (p4 + 1)]) (st := [.int (o11.2.1 0)]) (pc := 154) X (hR.1 h13) rfl w_548 w_550 w_8 w_43 w_551 hdV_X9_valueOf (Rc.s rfl ce_30) (by dsimp only; omega) (Nat.zero_le _) (Nat.zero_le _) (Nat.le_of_ble_eq_true rfl) dX9_valueOf_154 rfl ?_
            refine r_aload_n (x := some 30) (pc := 157) X dX9_valueOf_157 0 rfl ?_
            refine r_aload_n (pc := 158) X dX9_valueOf_158 1 rfl ?_
            refine b_dgetR (j := 3) (pc := 159) X rfl inT3 (by decide) w_664 rfl dX9_valueOf_159 hf (fun o14 hf => ?_)
            refine r_aload_n (x := some 3) (pc := 162) X dX9_valueOf_162 2 rfl ?_
            refine r_iload_n (pc := 163) X dX9_valueOf_163 3 rfl ?_
            refine r_iload (pc := 164) X dX9_valueOf_164 4 rfl ?_
            refine r_iconst (v := 1) (pc := 166) X dX9_valueOf_166 (by decide) ?_
            refine r_iadd (pc := 167) X dX9_valueOf_167 ?_
            refine bnd hf (fun x15 h15 hf => ?_)
            refine r_callVl (As := [rfB B (o14.2.2.1 3), .ref (B + 3), .int p3, .int (p4 + 1)]) (st := [.long x13.1, .int (o11.2.1 0)]) (pc := 168) X (hR.1 h15) rfl w_548 w_550 w_8 w_43 w_551 hdV_X9_valueOf (Rc.s rfl ce_30) (by dsimp only; omega) (Nat.zero_le _) (Nat.zero_le _) (Nat.le_of_ble_eq_true rfl) dX9_valueOf_168 rfl ?_
            refine bnd hf (fun x16 h16 hf => ?_)
            refine r_callSNl (As := [.int (o11.2.1 0), .long x13.1, .long x15.1]) (st := []) (pc := 171) X (c_f_P_combined h16) rfl wn_584 w_585 w_36 w_586 hdS_X10_combined (by dsimp only; omega) (Nat.zero_le _) (Nat.zero_le _) (Nat.le_of_ble_eq_true rfl) dX9_valueOf_171 rfl ?_
            exact e_lret (pc := 174) X hr hf (Nat.le_refl _) (Nat.le_refl _) dX9_valueOf_174
        · refine r_aload_n (x := some 30) (pc := 44) X dX9_valueOf_44 0 rfl ?_
          refine r_aload_n (pc := 45) X dX9_valueOf_45 1 rfl ?_
          refine r_aload_n (x := some 3) (pc := 46) X dX9_valueOf_46 2 rfl ?_
          refine r_iload (pc := 47) X dX9_valueOf_47 4 rfl ?_
          refine bnd hf (fun x17 h17 hf => ?_)
          refine r_callVl (As := [rfB B p1, .ref (B + 3), .int p4]) (st := []) (pc := 49) X (hR.2 h17) rfl w_562 w_564 w_9 w_43 w_565 hdV_X9_gathered (Rc.s rfl ce_30) (by dsimp only; omega) (Nat.zero_le _) (Nat.zero_le _) (Nat.le_of_ble_eq_true rfl) dX9_valueOf_49 rfl ?_
          exact e_lret (pc := 52) X hr hf (Nat.le_refl _) (Nat.le_refl _) dX9_valueOf_52
      · refine r_aload_n (x := some 3) (pc := 23) X dX9_valueOf_23 2 rfl ?_
        refine r_aload_n (pc := 24) X dX9_valueOf_24 1 rfl ?_
        refine b_dgetI (j := 0) (pc := 25) X rfl inT3 (by decide) w_658 rfl dX9_valueOf_25 hf (fun o18 hf => ?_)
        refine r_iload_n (pc := 28) X dX9_valueOf_28 3 rfl ?_
        refine bnd hf (fun x19 h19 hf => ?_)
        refine r_callVi (As := [.int (o18.2.1 0), .int p3]) (st := []) (pc := 29) X (c_f_Logs_fieldOf h19) rfl w_555 w_556 w_557 w_37 w_558 hdV_X2_fieldOf (Rc.s rfl ce_3) (by dsimp only; omega) (Nat.zero_le _) (Nat.zero_le _) (Nat.le_of_ble_eq_true rfl) dX9_valueOf_29 rfl ?_
        refine r_i2l (pc := 32) X dX9_valueOf_32 ?_
        exact e_lret (pc := 33) X hr hf (Nat.le_refl _) (Nat.le_refl _) dX9_valueOf_33
    · refine r_lconst (v := 0) (pc := 11) X dX9_valueOf_11 (by decide) ?_
      exact e_lret (pc := 12) X hr hf (Nat.le_refl _) (Nat.le_refl _) dX9_valueOf_12
/-! f_Walker_gathered -/
theorem dX9_gathered_0 : decode cX9_gathered 0 = .ok (.aload_n 0, 1) := by decide +kernel
theorem dX9_gathered_1 : decode cX9_gathered 1 = .ok (.getfield 12, 3) := by decide +kernel
theorem dX9_gathered_4 : decode cX9_gathered 4 = .ok (.invokevirtual 59, 3) := by decide +kernel
theorem dX9_gathered_7 : decode cX9_gathered 7 = .ok (.iconst 0, 1) := by decide +kernel
theorem dX9_gathered_8 : decode cX9_gathered 8 = .ok (.istore 4, 2) := by decide +kernel
theorem dX9_gathered_10 : decode cX9_gathered 10 = .ok (.iload 4, 2) := by decide +kernel
theorem dX9_gathered_12 : decode cX9_gathered 12 = .ok (.aload_n 2, 1) := by decide +kernel
theorem dX9_gathered_13 : decode cX9_gathered 13 = .ok (.getfield 62, 3) := by decide +kernel
theorem dX9_gathered_16 : decode cX9_gathered 16 = .ok (.if_icmp .ge 85, 3) := by decide +kernel
theorem dX9_gathered_19 : decode cX9_gathered 19 = .ok (.iload 4, 2) := by decide +kernel
theorem dX9_gathered_21 : decode cX9_gathered 21 = .ok (.aload_n 2, 1) := by decide +kernel
theorem dX9_gathered_22 : decode cX9_gathered 22 = .ok (.getfield 65, 3) := by decide +kernel
theorem dX9_gathered_25 : decode cX9_gathered 25 = .ok (.arraylength, 1) := by decide +kernel
theorem dX9_gathered_26 : decode cX9_gathered 26 = .ok (.if_icmp .ge 75, 3) := by decide +kernel
theorem dX9_gathered_29 : decode cX9_gathered 29 = .ok (.aload_n 2, 1) := by decide +kernel
theorem dX9_gathered_30 : decode cX9_gathered 30 = .ok (.getfield 65, 3) := by decide +kernel
theorem dX9_gathered_33 : decode cX9_gathered 33 = .ok (.iload 4, 2) := by decide +kernel
theorem dX9_gathered_35 : decode cX9_gathered 35 = .ok (.iaload, 1) := by decide +kernel
theorem dX9_gathered_36 : decode cX9_gathered 36 = .ok (.istore 5, 2) := by decide +kernel
theorem dX9_gathered_38 : decode cX9_gathered 38 = .ok (.aload_n 1, 1) := by decide +kernel
theorem dX9_gathered_39 : decode cX9_gathered 39 = .ok (.getfield 52, 3) := by decide +kernel
theorem dX9_gathered_42 : decode cX9_gathered 42 = .ok (.ifnull 22, 3) := by decide +kernel
theorem dX9_gathered_45 : decode cX9_gathered 45 = .ok (.aload_n 0, 1) := by decide +kernel
theorem dX9_gathered_46 : decode cX9_gathered 46 = .ok (.aload_n 1, 1) := by decide +kernel
theorem dX9_gathered_47 : decode cX9_gathered 47 = .ok (.getfield 52, 3) := by decide +kernel
theorem dX9_gathered_50 : decode cX9_gathered 50 = .ok (.aload_n 2, 1) := by decide +kernel
theorem dX9_gathered_51 : decode cX9_gathered 51 = .ok (.iload 5, 2) := by decide +kernel
theorem dX9_gathered_53 : decode cX9_gathered 53 = .ok (.iload_n 3, 1) := by decide +kernel
theorem dX9_gathered_54 : decode cX9_gathered 54 = .ok (.iconst 1, 1) := by decide +kernel
theorem dX9_gathered_55 : decode cX9_gathered 55 = .ok (.iadd, 1) := by decide +kernel
theorem dX9_gathered_56 : decode cX9_gathered 56 = .ok (.invokevirtual 18, 3) := by decide +kernel
theorem dX9_gathered_59 : decode cX9_gathered 59 = .ok (.lconst 0, 1) := by decide +kernel
theorem dX9_gathered_60 : decode cX9_gathered 60 = .ok (.lcmp, 1) := by decide +kernel
theorem dX9_gathered_61 : decode cX9_gathered 61 = .ok (.ifCond .eq 34, 3) := by decide +kernel
theorem dX9_gathered_64 : decode cX9_gathered 64 = .ok (.aload_n 0, 1) := by decide +kernel
theorem dX9_gathered_65 : decode cX9_gathered 65 = .ok (.getfield 12, 3) := by decide +kernel
theorem dX9_gathered_68 : decode cX9_gathered 68 = .ok (.aload_n 1, 1) := by decide +kernel
theorem dX9_gathered_69 : decode cX9_gathered 69 = .ok (.getfield 48, 3) := by decide +kernel
theorem dX9_gathered_72 : decode cX9_gathered 72 = .ok (.ifnonnull 7, 3) := by decide +kernel
theorem dX9_gathered_75 : decode cX9_gathered 75 = .ok (.iconst 0, 1) := by decide +kernel
theorem dX9_gathered_76 : decode cX9_gathered 76 = .ok (.goto 16, 3) := by decide +kernel
theorem dX9_gathered_79 : decode cX9_gathered 79 = .ok (.aload_n 2, 1) := by decide +kernel
theorem dX9_gathered_80 : decode cX9_gathered 80 = .ok (.aload_n 1, 1) := by decide +kernel
theorem dX9_gathered_81 : decode cX9_gathered 81 = .ok (.getfield 48, 3) := by decide +kernel
theorem dX9_gathered_84 : decode cX9_gathered 84 = .ok (.getfield 22, 3) := by decide +kernel
theorem dX9_gathered_87 : decode cX9_gathered 87 = .ok (.iload 5, 2) := by decide +kernel
theorem dX9_gathered_89 : decode cX9_gathered 89 = .ok (.invokevirtual 32, 3) := by decide +kernel
theorem dX9_gathered_92 : decode cX9_gathered 92 = .ok (.invokevirtual 69, 3) := by decide +kernel
theorem dX9_gathered_95 : decode cX9_gathered 95 = .ok (.iinc 4 1, 3) := by decide +kernel
theorem dX9_gathered_98 : decode cX9_gathered 98 = .ok (.goto (-88), 3) := by decide +kernel
theorem dX9_gathered_101 : decode cX9_gathered 101 = .ok (.aload_n 0, 1) := by decide +kernel
theorem dX9_gathered_102 : decode cX9_gathered 102 = .ok (.getfield 12, 3) := by decide +kernel
theorem dX9_gathered_105 : decode cX9_gathered 105 = .ok (.aload_n 1, 1) := by decide +kernel
theorem dX9_gathered_106 : decode cX9_gathered 106 = .ok (.getfield 22, 3) := by decide +kernel
theorem dX9_gathered_109 : decode cX9_gathered 109 = .ok (.invokevirtual 73, 3) := by decide +kernel
theorem dX9_gathered_112 : decode cX9_gathered 112 = .ok (.lreturn, 1) := by decide +kernel
def f_Walker_gathered_b64 (R : Nat → St → Option Nat → Int32 → Int32 → Option (Int64 × St)) (F : Nat) (K10 : St → Option Nat → Int32 → Int32 → Option (Int64 × St)) (s : St) (l1 : Option Nat) (l3 : Int32) (l4 : Int32) (l5 : Int32) : Option (Int64 × St) :=
  (dgo s l1 3).bind fun o8 => (if (o8.2.2.1 2) = none then
    ((f_Tally_addw F s 0).bind fun x9 => (K10 x9 l1 l3 (l4 + 1)))
  else
    ((dgo s l1 3).bind fun o10 => ((dgo s (o10.2.2.1 2) 3).bind fun o11 => ((f_Logs_fieldOf F s (o11.2.1 0) l5).bind fun x12 => ((f_Tally_addw F x12.2 x12.1).bind fun x13 => (K10 x13 l1 l3 (l4 + 1)))))))
def f_Walker_gathered_b10 (R : Nat → St → Option Nat → Int32 → Int32 → Option (Int64 × St)) (F : Nat) : Nat → St → Option Nat → Int32 → Int32 → Option (Int64 × St)
  | 0, _, _, _, _ => none
  | n + 1, s, l1, l3, l4 =>
    if (gI s 201) ≤ l4 then
      ((dgo s l1 3).bind fun o2 => ((f_Tally_resultw F s (o2.2.1 0)).bind fun x3 => (some (x3.1, x3.2))))
    else
      (if 100 ≤ l4 then
        ((dgo s l1 3).bind fun o4 => ((f_Tally_resultw F s (o4.2.1 0)).bind fun x5 => (some (x5.1, x5.2))))
      else
        ((ix 100 l4).bind fun j6 => ((dgo s l1 3).bind fun o7 => (if (o7.2.2.1 3) = none then
          (f_Walker_gathered_b64 R F (f_Walker_gathered_b10 R F n) s l1 l3 l4 (gA s 11 j6))
        else
          ((dgo s l1 3).bind fun o14 => ((R 0 s (o14.2.2.1 3) (gA s 11 j6) (l3 + 1)).bind fun x15 => (if x15.1 = 0 then
            (f_Walker_gathered_b10 R F n x15.2 l1 l3 (l4 + 1))
          else
            (f_Walker_gathered_b64 R F (f_Walker_gathered_b10 R F n) x15.2 l1 l3 l4 (gA s 11 j6)))))))))
def f_Walker_gathered (R : Nat → St → Option Nat → Int32 → Int32 → Option (Int64 × St)) (F : Nat) (s : St) (p1 : Option Nat) (p3 : Int32) : Option (Int64 × St) :=
  (f_Tally_clearw F s).bind fun x1 => (f_Walker_gathered_b10 R F F x1 p1 p3 0)
set_option maxHeartbeats 1000000 in
theorem c_f_Walker_gathered_b64 {R : Nat → St → Option Nat → Int32 → Int32 → Option (Int64 × St)} {fr lo : Nat} {F : Nat} {Γ : Ga} {D : DD} {B : Nat} {r : Int64} {s' : St} (hR : HWK R fr lo) (X : Cx Γ RX9 cX9_gathered 6 D B { frames := fr + 2, cells := 0, slots := 0, locals := lo + 46 }) (hr : (Gme Γ).sig.returnType = (some .long)) {K10 : St → Option Nat → Int32 → Int32 → Option (Int64 × St)} (hK10 : ∀ {s : St} {l1 : Option Nat} {l3 : Int32} {l4 : Int32}, K10 s l1 l3 l4 = some (r, s') → V Γ D B true 6 (QM Γ D B true s' (some (.long r)) 0 0) 0 0 s 10 [(0, .ref (B + 30)), (1, rfB B l1), (2, .ref (B + 3)), (3, .int l3), (4, .int l4)] []) {s : St} {l1 : Option Nat} {l3 : Int32} {l4 : Int32} {l5 : Int32} (hf : f_Walker_gathered_b64 R F K10 s l1 l3 l4 l5 = some (r, s')) : V Γ D B true 6 (QM Γ D B true s' (some (.long r)) 0 0) 0 0 s 64 [(0, .ref (B + 30)), (1, rfB B l1), (2, .ref (B + 3)), (3, .int l3), (4, .int l4), (5, .int l5)] [] := by
  unfold f_Walker_gathered_b64 at hf
  refine r_aload_n (x := some 30) (pc := 64) X dX9_gathered_64 0 rfl ?_
  refine r_get (j := 0) (pc := 65) X ce_30 rfl inT9 (by decide) w_257 rfl dX9_gathered_65 ?_
  refine r_aload_n (pc := 68) X dX9_gathered_68 1 rfl ?_
  refine b_dgetR (j := 2) (pc := 69) X rfl inT3 (by decide) w_662 rfl dX9_gathered_69 hf (fun o8 hf => ?_)
  refine b_ifnonnull (tgt := 79) (pc := 72) X dX9_gathered_72 (by decide) hf (fun hf => ?_) (fun hf => ?_)
  · refine r_iconst (v := 0) (pc := 75) X dX9_gathered_75 (by decide) ?_
    refine r_goto (tgt := 92) (pc := 76) X dX9_gathered_76 (by decide) ?_
    refine bnd hf (fun x9 h9 hf => ?_)
    refine r_callVv (As := [.int 0]) (st := []) (pc := 92) X (c_f_Tally_addw h9) rfl w_570 w_571 w_572 w_44 w_573 hdV_X8_add (Rc.s rfl ce_31) (by dsimp only; omega) (Nat.zero_le _) (Nat.zero_le _) (Nat.le_of_ble_eq_true rfl) dX9_gathered_92 rfl ?_
    refine r_iinc (v := l4 + 1) (lv' := [(0, .ref (B + 30)), (1, rfB B l1), (2, .ref (B + 3)), (3, .int l3), (4, .int (l4 + 1))]) (pc := 95) X dX9_gathered_95 4 rfl rfl (by decide) [1, 2, 3, 4, 0] rfl ?_
    refine r_goto (tgt := 10) (pc := 98) X dX9_gathered_98 (by decide) ?_
    exact hK10 hf
  · refine r_aload_n (x := some 3) (pc := 79) X dX9_gathered_79 2 rfl ?_
    refine r_aload_n (pc := 80) X dX9_gathered_80 1 rfl ?_
    refine b_dgetR (j := 2) (pc := 81) X rfl inT3 (by decide) w_662 rfl dX9_gathered_81 hf (fun o10 hf => ?_)
    refine b_dgetI (j := 0) (pc := 84) X rfl inT3 (by decide) w_658 rfl dX9_gathered_84 hf (fun o11 hf => ?_)
    refine r_iload (pc := 87) X dX9_gathered_87 5 rfl ?_
    refine bnd hf (fun x12 h12 hf => ?_)
    refine r_callVi (As := [.int (o11.2.1 0), .int l5]) (st := [.ref (B + 31)]) (pc := 89) X (c_f_Logs_fieldOf h12) rfl w_555 w_556 w_557 w_37 w_558 hdV_X2_fieldOf (Rc.s rfl ce_3) (by dsimp only; omega) (Nat.zero_le _) (Nat.zero_le _) (Nat.le_of_ble_eq_true rfl) dX9_gathered_89 rfl ?_
    refine bnd hf (fun x13 h13 hf => ?_)
    refine r_callVv (As := [.int x12.1]) (st := []) (pc := 92) X (c_f_Tally_addw h13) rfl w_570 w_571 w_572 w_44 w_573 hdV_X8_add (Rc.s rfl ce_31) (by dsimp only; omega) (Nat.zero_le _) (Nat.zero_le _) (Nat.le_of_ble_eq_true rfl) dX9_gathered_92 rfl ?_
    refine r_iinc (v := l4 + 1) (lv' := [(0, .ref (B + 30)), (1, rfB B l1), (2, .ref (B + 3)), (3, .int l3), (4, .int (l4 + 1))]) (pc := 95) X dX9_gathered_95 4 rfl rfl (by decide) [1, 2, 3, 4, 0] rfl ?_
    refine r_goto (tgt := 10) (pc := 98) X dX9_gathered_98 (by decide) ?_
    exact hK10 hf
set_option maxHeartbeats 1000000 in
theorem c_f_Walker_gathered_b10 {R : Nat → St → Option Nat → Int32 → Int32 → Option (Int64 × St)} {fr lo : Nat} {F : Nat} {Γ : Ga} {D : DD} {B : Nat} {r : Int64} {s' : St} (hR : HWK R fr lo) (X : Cx Γ RX9 cX9_gathered 6 D B { frames := fr + 2, cells := 0, slots := 0, locals := lo + 46 }) (hr : (Gme Γ).sig.returnType = (some .long)) : ∀ (n : Nat) {s : St} {l1 : Option Nat} {l3 : Int32} {l4 : Int32}, f_Walker_gathered_b10 R F n s l1 l3 l4 = some (r, s') → V Γ D B true 6 (QM Γ D B true s' (some (.long r)) 0 0) 0 0 s 10 [(0, .ref (B + 30)), (1, rfB B l1), (2, .ref (B + 3)), (3, .int l3), (4, .int l4)] [] := by
  intro n
  induction n with
  | zero => intro s l1 l3 l4 hf; rw [f_Walker_gathered_b10] at hf; cases hf
  | succ n ih =>
    intro s l1 l3 l4 hf
    rw [f_Walker_gathered_b10] at hf
    refine r_iload (pc := 10) X dX9_gathered_10 4 rfl ?_
    refine r_aload_n (x := some 3) (pc := 12) X dX9_gathered_12 2 rfl ?_
    refine r_get (j := 9) (pc := 13) X ce_3 rfl inT2 (by decide) w_85 rfl dX9_gathered_13 ?_
    refine b_icmp_ge (tgt := 101) (pc := 16) X dX9_gathered_16 (by decide) hf (fun hf => ?_) (fun hf => ?_)
    · refine r_aload_n (x := some 30) (pc := 101) X dX9_gathered_101 0 rfl ?_
      refine r_get (j := 0) (pc := 102) X ce_30 rfl inT9 (by decide) w_257 rfl dX9_gathered_102 ?_
      refine r_aload_n (pc := 105) X dX9_gathered_105 1 rfl ?_
      refine b_dgetI (j := 0) (pc := 106) X rfl inT3 (by decide) w_658 rfl dX9_gathered_106 hf (fun o2 hf => ?_)
      refine bnd hf (fun x3 h3 hf => ?_)
      refine r_callVl (As := [.int (o2.2.1 0)]) (st := []) (pc := 109) X (c_f_Tally_resultw h3) rfl w_576 w_577 w_578 w_44 w_579 hdV_X8_result (Rc.s rfl ce_31) (by dsimp only; omega) (Nat.zero_le _) (Nat.zero_le _) (Nat.le_of_ble_eq_true rfl) dX9_gathered_109 rfl ?_
      exact e_lret (pc := 112) X hr hf (Nat.le_refl _) (Nat.le_refl _) dX9_gathered_112
    · refine r_iload (pc := 19) X dX9_gathered_19 4 rfl ?_
      refine r_aload_n (x := some 3) (pc := 21) X dX9_gathered_21 2 rfl ?_
      refine r_get (j := 7) (pc := 22) X ce_3 rfl inT2 (by decide) w_80 rfl dX9_gathered_22 ?_
      refine r_alen (t0 := 1) (v := 100) (pc := 25) X ce_11 rfl (by decide) dX9_gathered_25 ?_
      refine b_icmp_ge (tgt := 101) (pc := 26) X dX9_gathered_26 (by decide) hf (fun hf => ?_) (fun hf => ?_)
      · refine r_aload_n (x := some 30) (pc := 101) X dX9_gathered_101 0 rfl ?_
        refine r_get (j := 0) (pc := 102) X ce_30 rfl inT9 (by decide) w_257 rfl dX9_gathered_102 ?_
        refine r_aload_n (pc := 105) X dX9_gathered_105 1 rfl ?_
        refine b_dgetI (j := 0) (pc := 106) X rfl inT3 (by decide) w_658 rfl dX9_gathered_106 hf (fun o4 hf => ?_)
        refine bnd hf (fun x5 h5 hf => ?_)
        refine r_callVl (As := [.int (o4.2.1 0)]) (st := []) (pc := 109) X (c_f_Tally_resultw h5) rfl w_576 w_577 w_578 w_44 w_579 hdV_X8_result (Rc.s rfl ce_31) (by dsimp only; omega) (Nat.zero_le _) (Nat.zero_le _) (Nat.le_of_ble_eq_true rfl) dX9_gathered_109 rfl ?_
        exact e_lret (pc := 112) X hr hf (Nat.le_refl _) (Nat.le_refl _) dX9_gathered_112
      · refine r_aload_n (x := some 3) (pc := 29) X dX9_gathered_29 2 rfl ?_
        refine r_get (j := 7) (pc := 30) X ce_3 rfl inT2 (by decide) w_80 rfl dX9_gathered_30 ?_
        refine r_iload (pc := 33) X dX9_gathered_33 4 rfl ?_
        refine b_iald (pc := 35) X ce_11 dX9_gathered_35 hf (fun j6 hf => ?_)
        refine r_istore (pc := 36) (lv' := [(0, .ref (B + 30)), (1, rfB B l1), (2, .ref (B + 3)), (3, .int l3), (4, .int l4), (5, .int (gA s 11 j6))]) X dX9_gathered_36 (by decide) [1, 2, 3, 4, 5, 0] rfl ?_
        refine r_aload_n (pc := 38) X dX9_gathered_38 1 rfl ?_
        refine b_dgetR (j := 3) (pc := 39) X rfl inT3 (by decide) w_664 rfl dX9_gathered_39 hf (fun o7 hf => ?_)
        refine b_ifnull (tgt := 64) (pc := 42) X dX9_gathered_42 (by decide) hf (fun hf => ?_) (fun hf => ?_)
        · exact c_f_Walker_gathered_b64 hR X hr (fun hf => ih hf) hf
        · refine r_aload_n (x := some 30) (pc := 45) X dX9_gathered_45 0 rfl ?_
          refine r_aload_n (pc := 46) X dX9_gathered_46 1 rfl ?_
          refine b_dgetR (j := 3) (pc := 47) X rfl inT3 (by decide) w_664 rfl dX9_gathered_47 hf (fun o14 hf => ?_)
          refine r_aload_n (x := some 3) (pc := 50) X dX9_gathered_50 2 rfl ?_
          refine r_iload (pc := 51) X dX9_gathered_51 5 rfl ?_
          refine r_iload_n (pc := 53) X dX9_gathered_53 3 rfl ?_
          refine r_iconst (v := 1) (pc := 54) X dX9_gathered_54 (by decide) ?_
          refine r_iadd (pc := 55) X dX9_gathered_55 ?_
          refine bnd hf (fun x15 h15 hf => ?_)
          refine r_callVl (As := [rfB B (o14.2.2.1 3), .ref (B + 3), .int (gA s 11 j6), .int (l3 + 1)]) (st := []) (pc := 56) X (hR.1 h15) rfl w_548 w_550 w_8 w_43 w_551 hdV_X9_valueOf (Rc.s rfl ce_30) (by dsimp only; omega) (Nat.zero_le _) (Nat.zero_le _) (Nat.le_of_ble_eq_true rfl) dX9_gathered_56 rfl ?_
          refine r_lconst (v := 0) (pc := 59) X dX9_gathered_59 (by decide) ?_
          refine b_lcmp_eq (tgt := 95) (pc := 60) X dX9_gathered_60 dX9_gathered_61 (by decide) hf (fun hf => ?_) (fun hf => ?_)
          · refine r_iinc (v := l4 + 1) (lv' := [(0, .ref (B + 30)), (1, rfB B l1), (2, .ref (B + 3)), (3, .int l3), (4, .int (l4 + 1))]) (pc := 95) X dX9_gathered_95 4 rfl rfl (by decide) [1, 2, 3, 4, 0] rfl ?_
            refine r_goto (tgt := 10) (pc := 98) X dX9_gathered_98 (by decide) ?_
            exact ih hf
          · exact c_f_Walker_gathered_b64 hR X hr (fun hf => ih hf) hf
set_option maxHeartbeats 1000000 in
theorem c_f_Walker_gathered {R : Nat → St → Option Nat → Int32 → Int32 → Option (Int64 × St)} {fr lo : Nat} {F : Nat} {s : St} {p1 : Option Nat} {p3 : Int32} {r : Int64} {s' : St} (hR : HWK R fr lo) (hf : f_Walker_gathered R F s p1 p3 = some (r, s')) : CC true yX9_gathered (Cond.code yX9_gathered cX9_gathered 6 (some .long)) (fr + 2) (lo + 46) (fun B => [.ref (B + 30), rfB B p1, .ref (B + 3), .int p3]) s (fun B => (some (.long r))) s' 0 0 := by
  refine CC.of (fun B => [(0, .ref (B + 30)), (1, rfB B p1), (2, .ref (B + 3)), (3, .int p3)]) (by decide +kernel) (fun _ => (by simp [lv_args, rfB_cat, catI, catL, catR])) (fun _ => (by simp [lg_sl, rfB_cat, catI, catL, catR])) (fun Γ D B X hr hin => ?_)
  have X : Cx Γ RX9 cX9_gathered 6 D B { frames := fr + 2, cells := 0, slots := 0, locals := lo + 46 } := X
  unfold f_Walker_gathered at hf
  refine r_aload_n (x := some 30) (pc := 0) X dX9_gathered_0 0 rfl ?_
  refine r_get (j := 0) (pc := 1) X ce_30 rfl inT9 (by decide) w_257 rfl dX9_gathered_1 ?_
  refine bnd hf (fun x1 h1 hf => ?_)
  refine r_callVv (As := []) (st := []) (pc := 4) X (c_f_Tally_clearw h1) rfl w_566 w_567 w_568 w_44 w_569 hdV_X8_clear (Rc.s rfl ce_31) (by dsimp only; omega) (Nat.zero_le _) (Nat.zero_le _) (Nat.le_of_ble_eq_true rfl) dX9_gathered_4 rfl ?_
  refine r_iconst (v := 0) (pc := 7) X dX9_gathered_7 (by decide) ?_
  refine r_istore (pc := 8) (lv' := [(0, .ref (B + 30)), (1, rfB B p1), (2, .ref (B + 3)), (3, .int p3), (4, .int 0)]) X dX9_gathered_8 (by decide) [1, 2, 3, 4, 0] rfl ?_
  exact c_f_Walker_gathered_b10 hR X hr _ hf
/-! f_Walker_valueOf_t -/
def f_WK (F : Nat) : Nat → Nat → St → Option Nat → Int32 → Int32 → Option (Int64 × St)
  | 0, _, _, _, _, _ => none
  | d + 1, t, s, q, a, b => match t with
    | 0 => f_Walker_valueOf (f_WK F d) F s q a b
    | _ => f_Walker_gathered (f_WK F d) F s q a
def f_Walker_valueOf_t (F : Nat) (s : St) (p1 : Option Nat) (p3 : Int32) (p4 : Int32) : Option (Int64 × St) := f_WK F 100 0 s p1 p3 p4
theorem h_WK {F : Nat} : ∀ d, HWK (f_WK F d) (2 * d) (46 * d) := by
  intro d
  induction d with
  | zero => exact ⟨(fun h => by rw [f_WK] at h; cases h), (fun h => by rw [f_WK] at h; cases h)⟩
  | succ d ih => exact ⟨(fun h => c_f_Walker_valueOf ih h), (fun h => c_f_Walker_gathered ih h)⟩
theorem c_f_Walker_valueOf_t {F : Nat} {s : St} {p1 : Option Nat} {p3 : Int32} {p4 : Int32} {r : Int64} {s' : St} (hf : f_Walker_valueOf_t F s p1 p3 p4 = some (r, s')) : CC true yX9_valueOf (Cond.code yX9_valueOf cX9_valueOf 5 (some .long)) 200 4600 (fun B => [.ref (B + 30), rfB B p1, .ref (B + 3), .int p3, .int p4]) s (fun B => some (.long r)) s' 0 0 := (h_WK 100).1 hf
/-! f_Walker_gathered_t -/
def f_Walker_gathered_t (F : Nat) (s : St) (p1 : Option Nat) (p3 : Int32) : Option (Int64 × St) := f_WK F 100 1 s p1 p3 0
theorem c_f_Walker_gathered_t {F : Nat} {s : St} {p1 : Option Nat} {p3 : Int32} {r : Int64} {s' : St} (hf : f_Walker_gathered_t F s p1 p3 = some (r, s')) : CC true yX9_gathered (Cond.code yX9_gathered cX9_gathered 6 (some .long)) 200 4600 (fun B => [.ref (B + 30), rfB B p1, .ref (B + 3), .int p3]) s (fun B => some (.long r)) s' 0 0 := (h_WK 100).2 hf
/-! f_Node_init -/
theorem dX3_init_0 : decode cX3_init 0 = .ok (.aload_n 0, 1) := by decide +kernel
theorem dX3_init_1 : decode cX3_init 1 = .ok (.invokespecial 1, 3) := by decide +kernel
theorem dX3_init_4 : decode cX3_init 4 = .ok (.aload_n 0, 1) := by decide +kernel
theorem dX3_init_5 : decode cX3_init 5 = .ok (.iload_n 1, 1) := by decide +kernel
theorem dX3_init_6 : decode cX3_init 6 = .ok (.putfield 7, 3) := by decide +kernel
theorem dX3_init_9 : decode cX3_init 9 = .ok (.aload_n 0, 1) := by decide +kernel
theorem dX3_init_10 : decode cX3_init 10 = .ok (.iload_n 2, 1) := by decide +kernel
theorem dX3_init_11 : decode cX3_init 11 = .ok (.putfield 13, 3) := by decide +kernel
theorem dX3_init_14 : decode cX3_init 14 = .ok (.aload_n 0, 1) := by decide +kernel
theorem dX3_init_15 : decode cX3_init 15 = .ok (.aload_n 3, 1) := by decide +kernel
theorem dX3_init_16 : decode cX3_init 16 = .ok (.putfield 16, 3) := by decide +kernel
theorem dX3_init_19 : decode cX3_init 19 = .ok (.aload_n 0, 1) := by decide +kernel
theorem dX3_init_20 : decode cX3_init 20 = .ok (.aload 4, 2) := by decide +kernel
theorem dX3_init_22 : decode cX3_init 22 = .ok (.putfield 20, 3) := by decide +kernel
theorem dX3_init_25 : decode cX3_init 25 = .ok (.return_, 1) := by decide +kernel
def f_Node_init (F : Nat) (s : St) (p0 : Option Nat) (p1 : Int32) (p2 : Int32) (p3 : Option Nat) (p4 : Option Nat) : Option (St) :=
  (dgo s p0 3).bind fun _ => ((dgo s p0 3).bind fun o1 => (lt (sF s o1 3 (ups o1.2.1 0 p1, o1.2.2)) fun s2 => ((dgo s2 p0 3).bind fun o3 => (lt (sF s2 o3 3 (ups o3.2.1 1 p2, o3.2.2)) fun s4 => ((dgo s4 p0 3).bind fun o5 => (lt (sF s4 o5 3 (o5.2.1, ups o5.2.2.1 2 p3, o5.2.2.2)) fun s6 => ((dgo s6 p0 3).bind fun o7 => (lt (sF s6 o7 3 (o7.2.1, ups o7.2.2.1 3 p4, o7.2.2.2)) fun s8 => (some s8)))))))))
set_option maxHeartbeats 1000000 in
theorem c_f_Node_init {F : Nat} {s : St} {p0 : Option Nat} {p1 : Int32} {p2 : Int32} {p3 : Option Nat} {p4 : Option Nat} {s' : St} (hf : f_Node_init F s p0 p1 p2 p3 p4 = some s') : CC true yX3_init (Cond.code yX3_init cX3_init 5 none) (1) (12) (fun B => [rfB B p0, .int p1, .int p2, rfB B p3, rfB B p4]) s (fun B => none) s' 0 0 := by
  refine CC.of (fun B => [(0, rfB B p0), (1, .int p1), (2, .int p2), (3, rfB B p3), (4, rfB B p4)]) (by decide +kernel) (fun _ => (by simp [lv_args, rfB_cat, catI, catL, catR])) (fun _ => (by simp [lg_sl, rfB_cat, catI, catL, catR])) (fun Γ D B X hr hin => ?_)
  have X : Cx Γ RX3 cX3_init 5 D B { frames := 1, cells := 0, slots := 0, locals := 12 } := X
  unfold f_Node_init at hf
  refine r_aload_n (pc := 0) X dX3_init_0 0 rfl ?_
  refine b_recv (w := true) (B := B) (D := D) rfl hf (fun a hx hrc hf => ?_)
  refine r_objInit (pc := 1) X hx w_656 w_62 w_objcode (Nat.le_of_ble_eq_true rfl) (Nat.le_of_ble_eq_true rfl) dX3_init_1 ?_
  refine r_aload_n (pc := 4) X dX3_init_4 0 rfl ?_
  refine r_iload_n (pc := 5) X dX3_init_5 1 rfl ?_
  refine b_dputI (j := 0) (pc := 6) X rfl inT3 tyX3 tyX3_ok nmX3 (by decide) w_657 (Or.inr ⟨rfl, hin, rfl⟩) (tyX3_ok 0 (by decide)) rfl rfl rfl dX3_init_6 hf (fun o1 s2 hf => ?_)
  refine r_aload_n (pc := 9) X dX3_init_9 0 rfl ?_
  refine r_iload_n (pc := 10) X dX3_init_10 2 rfl ?_
  refine b_dputI (j := 1) (pc := 11) X rfl inT3 tyX3 tyX3_ok nmX3 (by decide) w_659 (Or.inr ⟨rfl, hin, rfl⟩) (tyX3_ok 1 (by decide)) rfl rfl rfl dX3_init_11 hf (fun o3 s4 hf => ?_)
  refine r_aload_n (pc := 14) X dX3_init_14 0 rfl ?_
  refine r_aload_n (pc := 15) X dX3_init_15 3 rfl ?_
  refine b_dputR (j := 2) (pc := 16) X rfl inT3 tyX3 tyX3_ok nmX3 (by decide) w_661 (Or.inr ⟨rfl, hin, rfl⟩) (tyX3_ok 2 (by decide)) (Or.inl ⟨_, rfl⟩) rfl dX3_init_16 hf (fun o5 s6 hf => ?_)
  refine r_aload_n (pc := 19) X dX3_init_19 0 rfl ?_
  refine r_aload (pc := 20) X dX3_init_20 4 rfl ?_
  refine b_dputR (j := 3) (pc := 22) X rfl inT3 tyX3 tyX3_ok nmX3 (by decide) w_663 (Or.inr ⟨rfl, hin, rfl⟩) (tyX3_ok 3 (by decide)) (Or.inl ⟨_, rfl⟩) rfl dX3_init_22 hf (fun o7 s8 hf => ?_)
  exact e_vret (pc := 25) X hr hf (Nat.le_refl _) (Nat.le_refl _) dX3_init_25
/-! f_Reader_readChain -/
def HRD (R : Nat → St → Int32 → Int32 → Option (Option Nat × St)) (Z fr lo : Nat) : Prop :=
  (∀ {s : St} {a : Int32} {b : Int32} {r : Option Nat} {s' : St}, R 0 s a b = some (r, s') → CX true yX4_readChain (Cond.code yX4_readChain cX4_readChain 8 (some (.object "Pagerloom$Node"))) fr lo (Z - sz s) (12 * (Z - sz s)) (fun B => [.ref (B + 24), .int a, .int b]) s (fun B => .inl (some (rfB B r))) s' (sz s' - sz s) (12 * (sz s' - sz s))) ∧
  (∀ {s : St} {a : Int32} {r : Option Nat} {s' : St}, R 1 s a 0 = some (r, s') → CX true yX4_readUnit (Cond.code yX4_readUnit cX4_readUnit 3 (some (.object "Pagerloom$Node"))) fr lo (Z - sz s) (12 * (Z - sz s)) (fun B => [.ref (B + 24), .int a]) s (fun B => .inl (some (rfB B r))) s' (sz s' - sz s) (12 * (sz s' - sz s))) ∧
  (∀ {s : St} {a : Int32} {r : Option Nat} {s' : St}, R 2 s a 0 = some (r, s') → CX true yX4_readAggregate (Cond.code yX4_readAggregate cX4_readAggregate 5 (some (.object "Pagerloom$Node"))) fr lo (Z - sz s) (12 * (Z - sz s)) (fun B => [.ref (B + 24), .int a]) s (fun B => .inl (some (rfB B r))) s' (sz s' - sz s) (12 * (sz s' - sz s))) ∧
  (∀ {s : St} {a : Int32} {r : Option Nat} {s' : St}, R 3 s a 0 = some (r, s') → CX true yX4_readTerm (Cond.code yX4_readTerm cX4_readTerm 3 (some (.object "Pagerloom$Node"))) fr lo (Z - sz s) (12 * (Z - sz s)) (fun B => [.ref (B + 24), .int a]) s (fun B => .inl (some (rfB B r))) s' (sz s' - sz s) (12 * (sz s' - sz s)))
theorem dX4_readChain_0 : decode cX4_readChain 0 = .ok (.iload_n 1, 1) := by decide +kernel
theorem dX4_readChain_1 : decode cX4_readChain 1 = .ok (.ifCond .ne 7, 3) := by decide +kernel
theorem dX4_readChain_4 : decode cX4_readChain 4 = .ok (.iconst 1, 1) := by decide +kernel
theorem dX4_readChain_5 : decode cX4_readChain 5 = .ok (.goto 5, 3) := by decide +kernel
theorem dX4_readChain_8 : decode cX4_readChain 8 = .ok (.bipush 40, 2) := by decide +kernel
theorem dX4_readChain_10 : decode cX4_readChain 10 = .ok (.istore_n 3, 1) := by decide +kernel
theorem dX4_readChain_11 : decode cX4_readChain 11 = .ok (.aconst_null, 1) := by decide +kernel
theorem dX4_readChain_12 : decode cX4_readChain 12 = .ok (.astore 4, 2) := by decide +kernel
theorem dX4_readChain_14 : decode cX4_readChain 14 = .ok (.iconst 0, 1) := by decide +kernel
theorem dX4_readChain_15 : decode cX4_readChain 15 = .ok (.istore 5, 2) := by decide +kernel
theorem dX4_readChain_17 : decode cX4_readChain 17 = .ok (.iconst 0, 1) := by decide +kernel
theorem dX4_readChain_18 : decode cX4_readChain 18 = .ok (.istore 6, 2) := by decide +kernel
theorem dX4_readChain_20 : decode cX4_readChain 20 = .ok (.iload 6, 2) := by decide +kernel
theorem dX4_readChain_22 : decode cX4_readChain 22 = .ok (.iload_n 3, 1) := by decide +kernel
theorem dX4_readChain_23 : decode cX4_readChain 23 = .ok (.if_icmp .gt 112, 3) := by decide +kernel
theorem dX4_readChain_26 : decode cX4_readChain 26 = .ok (.iload_n 1, 1) := by decide +kernel
theorem dX4_readChain_27 : decode cX4_readChain 27 = .ok (.iconst 2, 1) := by decide +kernel
theorem dX4_readChain_28 : decode cX4_readChain 28 = .ok (.if_icmp .ne 11, 3) := by decide +kernel
theorem dX4_readChain_31 : decode cX4_readChain 31 = .ok (.aload_n 0, 1) := by decide +kernel
theorem dX4_readChain_32 : decode cX4_readChain 32 = .ok (.iload_n 2, 1) := by decide +kernel
theorem dX4_readChain_33 : decode cX4_readChain 33 = .ok (.invokevirtual 26, 3) := by decide +kernel
theorem dX4_readChain_36 : decode cX4_readChain 36 = .ok (.goto 24, 3) := by decide +kernel
theorem dX4_readChain_39 : decode cX4_readChain 39 = .ok (.iload_n 1, 1) := by decide +kernel
theorem dX4_readChain_40 : decode cX4_readChain 40 = .ok (.iconst 4, 1) := by decide +kernel
theorem dX4_readChain_41 : decode cX4_readChain 41 = .ok (.if_icmp .ne 11, 3) := by decide +kernel
theorem dX4_readChain_44 : decode cX4_readChain 44 = .ok (.aload_n 0, 1) := by decide +kernel
theorem dX4_readChain_45 : decode cX4_readChain 45 = .ok (.iload_n 2, 1) := by decide +kernel
theorem dX4_readChain_46 : decode cX4_readChain 46 = .ok (.invokevirtual 30, 3) := by decide +kernel
theorem dX4_readChain_49 : decode cX4_readChain 49 = .ok (.goto 11, 3) := by decide +kernel
theorem dX4_readChain_52 : decode cX4_readChain 52 = .ok (.aload_n 0, 1) := by decide +kernel
theorem dX4_readChain_53 : decode cX4_readChain 53 = .ok (.iload_n 1, 1) := by decide +kernel
theorem dX4_readChain_54 : decode cX4_readChain 54 = .ok (.iconst 1, 1) := by decide +kernel
theorem dX4_readChain_55 : decode cX4_readChain 55 = .ok (.iadd, 1) := by decide +kernel
theorem dX4_readChain_56 : decode cX4_readChain 56 = .ok (.iload_n 2, 1) := by decide +kernel
theorem dX4_readChain_57 : decode cX4_readChain 57 = .ok (.invokevirtual 22, 3) := by decide +kernel
theorem dX4_readChain_60 : decode cX4_readChain 60 = .ok (.astore 7, 2) := by decide +kernel
theorem dX4_readChain_62 : decode cX4_readChain 62 = .ok (.aload 7, 2) := by decide +kernel
theorem dX4_readChain_64 : decode cX4_readChain 64 = .ok (.ifnonnull 5, 3) := by decide +kernel
theorem dX4_readChain_67 : decode cX4_readChain 67 = .ok (.aconst_null, 1) := by decide +kernel
theorem dX4_readChain_68 : decode cX4_readChain 68 = .ok (.areturn, 1) := by decide +kernel
theorem dX4_readChain_69 : decode cX4_readChain 69 = .ok (.iload 6, 2) := by decide +kernel
theorem dX4_readChain_71 : decode cX4_readChain 71 = .ok (.ifCond .ne 8, 3) := by decide +kernel
theorem dX4_readChain_74 : decode cX4_readChain 74 = .ok (.aload 7, 2) := by decide +kernel
theorem dX4_readChain_76 : decode cX4_readChain 76 = .ok (.goto 17, 3) := by decide +kernel
theorem dX4_readChain_79 : decode cX4_readChain 79 = .ok (.new 33, 3) := by decide +kernel
theorem dX4_readChain_82 : decode cX4_readChain 82 = .ok (.dup, 1) := by decide +kernel
theorem dX4_readChain_83 : decode cX4_readChain 83 = .ok (.iload 5, 2) := by decide +kernel
theorem dX4_readChain_85 : decode cX4_readChain 85 = .ok (.iconst 0, 1) := by decide +kernel
theorem dX4_readChain_86 : decode cX4_readChain 86 = .ok (.aload 4, 2) := by decide +kernel
theorem dX4_readChain_88 : decode cX4_readChain 88 = .ok (.aload 7, 2) := by decide +kernel
theorem dX4_readChain_90 : decode cX4_readChain 90 = .ok (.invokespecial 35, 3) := by decide +kernel
theorem dX4_readChain_93 : decode cX4_readChain 93 = .ok (.astore 4, 2) := by decide +kernel
theorem dX4_readChain_95 : decode cX4_readChain 95 = .ok (.aload_n 0, 1) := by decide +kernel
theorem dX4_readChain_96 : decode cX4_readChain 96 = .ok (.invokevirtual 38, 3) := by decide +kernel
theorem dX4_readChain_99 : decode cX4_readChain 99 = .ok (.istore 5, 2) := by decide +kernel
theorem dX4_readChain_101 : decode cX4_readChain 101 = .ok (.iload 6, 2) := by decide +kernel
theorem dX4_readChain_103 : decode cX4_readChain 103 = .ok (.iload_n 3, 1) := by decide +kernel
theorem dX4_readChain_104 : decode cX4_readChain 104 = .ok (.if_icmp .eq 12, 3) := by decide +kernel
theorem dX4_readChain_107 : decode cX4_readChain 107 = .ok (.iload_n 1, 1) := by decide +kernel
theorem dX4_readChain_108 : decode cX4_readChain 108 = .ok (.iload 5, 2) := by decide +kernel
theorem dX4_readChain_110 : decode cX4_readChain 110 = .ok (.invokestatic 42, 3) := by decide +kernel
theorem dX4_readChain_113 : decode cX4_readChain 113 = .ok (.ifCond .ne 6, 3) := by decide +kernel
theorem dX4_readChain_116 : decode cX4_readChain 116 = .ok (.aload 4, 2) := by decide +kernel
theorem dX4_readChain_118 : decode cX4_readChain 118 = .ok (.areturn, 1) := by decide +kernel
theorem dX4_readChain_119 : decode cX4_readChain 119 = .ok (.aload_n 0, 1) := by decide +kernel
theorem dX4_readChain_120 : decode cX4_readChain 120 = .ok (.dup, 1) := by decide +kernel
theorem dX4_readChain_121 : decode cX4_readChain 121 = .ok (.getfield 19, 3) := by decide +kernel
theorem dX4_readChain_124 : decode cX4_readChain 124 = .ok (.iconst 1, 1) := by decide +kernel
theorem dX4_readChain_125 : decode cX4_readChain 125 = .ok (.iadd, 1) := by decide +kernel
theorem dX4_readChain_126 : decode cX4_readChain 126 = .ok (.putfield 19, 3) := by decide +kernel
theorem dX4_readChain_129 : decode cX4_readChain 129 = .ok (.iinc 6 1, 3) := by decide +kernel
theorem dX4_readChain_132 : decode cX4_readChain 132 = .ok (.goto (-112), 3) := by decide +kernel
theorem dX4_readChain_135 : decode cX4_readChain 135 = .ok (.aconst_null, 1) := by decide +kernel
theorem dX4_readChain_136 : decode cX4_readChain 136 = .ok (.areturn, 1) := by decide +kernel
def f_Reader_readChain_b93 (R : Nat → St → Int32 → Int32 → Option (Option Nat × St)) (F Z : Nat) (K20 : St → Int32 → Int32 → Int32 → Option Nat → Int32 → Int32 → Option (Option Nat × St)) (s : St) (l1 : Int32) (l2 : Int32) (l3 : Int32) (l6 : Int32) (t0 : Option Nat) : Option (Option Nat × St) :=
  (f_Reader_here F s).bind fun x2 => (if l6 = l3 then
    (some (t0, x2.2))
  else
    ((f_Reader_isSignOf F x2.2 l1 x2.1).bind fun x3 => (if x3.1 = 0 then
      (some (t0, x3.2))
    else
      (lt (sI x3.2 1538 ((gI x3.2 1538) + 1)) fun s4 => (K20 s4 l1 l2 l3 t0 x2.1 (l6 + 1))))))
def f_Reader_readChain_b60 (R : Nat → St → Int32 → Int32 → Option (Option Nat × St)) (F Z : Nat) (K20 : St → Int32 → Int32 → Int32 → Option Nat → Int32 → Int32 → Option (Option Nat × St)) (s : St) (l1 : Int32) (l2 : Int32) (l3 : Int32) (l4 : Option Nat) (l5 : Int32) (l6 : Int32) (t0 : Option Nat) : Option (Option Nat × St) :=
  if t0 = none then
    (some (none, s))
  else
    (if l6 = 0 then
      (f_Reader_readChain_b93 R F Z K20 s l1 l2 l3 l6 t0)
    else
      (if sz s < Z then (lt (sN s (.inl (3, fun _ => 0, fun _ => none, fun _ => 0))) fun s5 => ((dgo s5 (some (sz s)) 3).bind fun _ => ((f_Node_init F s5 (some (sz s)) l5 0 l4 t0).bind fun x6 => (f_Reader_readChain_b93 R F Z K20 x6 l1 l2 l3 l6 (some (sz s)))))) else none))
def f_Reader_readChain_b20 (R : Nat → St → Int32 → Int32 → Option (Option Nat × St)) (F Z : Nat) : Nat → St → Int32 → Int32 → Int32 → Option Nat → Int32 → Int32 → Option (Option Nat × St)
  | 0, _, _, _, _, _, _, _ => none
  | n + 1, s, l1, l2, l3, l4, l5, l6 =>
    if l3 < l6 then
      (some (none, s))
    else
      (if l1 = 2 then
        ((R 1 s l2 0).bind fun x1 => (if sz x1.2 ≤ Z then (f_Reader_readChain_b60 R F Z (f_Reader_readChain_b20 R F Z n) x1.2 l1 l2 l3 l4 l5 l6 x1.1) else none))
      else
        (if l1 = 4 then
          ((R 3 s l2 0).bind fun x7 => (if sz x7.2 ≤ Z then (f_Reader_readChain_b60 R F Z (f_Reader_readChain_b20 R F Z n) x7.2 l1 l2 l3 l4 l5 l6 x7.1) else none))
        else
          ((R 0 s (l1 + 1) l2).bind fun x8 => (if sz x8.2 ≤ Z then (f_Reader_readChain_b60 R F Z (f_Reader_readChain_b20 R F Z n) x8.2 l1 l2 l3 l4 l5 l6 x8.1) else none))))
def f_Reader_readChain (R : Nat → St → Int32 → Int32 → Option (Option Nat × St)) (F Z : Nat) (s : St) (p1 : Int32) (p2 : Int32) : Option (Option Nat × St) :=
  if p1 = 0 then
    (f_Reader_readChain_b20 R F Z F s p1 p2 1 none 0 0)
  else
    (f_Reader_readChain_b20 R F Z F s p1 p2 40 none 0 0)
set_option maxHeartbeats 1000000 in
theorem c_f_Reader_readChain_b93 {R : Nat → St → Int32 → Int32 → Option (Option Nat × St)} {fr lo : Nat} {F Z : Nat} {Γ : Ga} {D : DD} {B : Nat} {r : Option Nat} {s' : St} (hR : HRD R Z fr lo) (X : Cx Γ RX4 cX4_readChain 8 D B (RM Γ B Z (fr + 4) (lo + 82))) (Y : Xx Γ B) (hr : (Gme Γ).sig.returnType = (some (.object "Pagerloom$Node"))) {K20 : St → Int32 → Int32 → Int32 → Option Nat → Int32 → Int32 → Option (Option Nat × St)} (hK20 : ∀ {s : St} {l1 : Int32} {l2 : Int32} {l3 : Int32} {l4 : Option Nat} {l5 : Int32} {l6 : Int32}, K20 s l1 l2 l3 l4 l5 l6 = some (r, s') → V Γ D B true 8 (QX Γ D B true s' (.inl (some (rfB B r))) (RZ Γ B (sz s')) (12 * RZ Γ B (sz s'))) (kz Γ B Z s) (12 * kz Γ B Z s) s 20 [(0, .ref (B + 24)), (1, .int l1), (2, .int l2), (3, .int l3), (4, rfB B l4), (5, .int l5), (6, .int l6)] []) {s : St} {l1 : Int32} {l2 : Int32} {l3 : Int32} {l6 : Int32} {t0 : Option Nat} (hf : f_Reader_readChain_b93 R F Z K20 s l1 l2 l3 l6 t0 = some (r, s')) : V Γ D B true 8 (QX Γ D B true s' (.inl (some (rfB B r))) (RZ Γ B (sz s')) (12 * RZ Γ B (sz s'))) (kz Γ B Z s) (12 * kz Γ B Z s) s 93 [(0, .ref (B + 24)), (1, .int l1), (2, .int l2), (3, .int l3), (6, .int l6)] [rfB B t0] := by
  unfold f_Reader_readChain_b93 at hf
  refine r_astore (pc := 93) (lv' := [(0, .ref (B + 24)), (1, .int l1), (2, .int l2), (3, .int l3), (4, rfB B t0), (6, .int l6)]) X dX4_readChain_93 (by decide) [1, 2, 3, 4, 0, 5] rfl ?_
  refine r_aload_n (x := some 24) (pc := 95) X dX4_readChain_95 0 rfl ?_
  refine bnd hf (fun x2 h2 hf => ?_)
  refine z_callVi (As := []) (st := []) (pc := 96) X (c_f_Reader_here h2) rfl w_644 w_646 w_14 w_41 w_647 hdV_X4_here (Rc.s rfl ce_24) (by omega) (Nat.le_of_ble_eq_true rfl) dX4_readChain_96 rfl ?_
  refine r_istore (pc := 99) (lv' := [(0, .ref (B + 24)), (1, .int l1), (2, .int l2), (3, .int l3), (4, rfB B t0), (5, .int x2.1), (6, .int l6)]) X dX4_readChain_99 (by decide) [1, 2, 3, 4, 5, 0, 6] (by simp [lv_pick, rfB_cat, catI, catL, catR]) ?_
  refine r_iload (pc := 101) X dX4_readChain_101 6 rfl ?_
  refine r_iload_n (pc := 103) X dX4_readChain_103 3 rfl ?_
  refine b_icmp_eq (tgt := 116) (pc := 104) X dX4_readChain_104 (by decide) hf (fun hf => ?_) (fun hf => ?_)
  · refine r_aload (pc := 116) X dX4_readChain_116 4 rfl ?_
    exact z_aret (pc := 118) X hr hf dX4_readChain_118
  · refine r_iload_n (pc := 107) X dX4_readChain_107 1 rfl ?_
    refine r_iload (pc := 108) X dX4_readChain_108 5 rfl ?_
    refine bnd hf (fun x3 h3 hf => ?_)
    refine z_callSi (As := [.int l1, .int x2.1]) (st := []) (pc := 110) X (c_f_Reader_isSignOf h3) rfl w_706 w_707 w_41 w_708 hdS_X4_isSignOf (by omega) (Nat.le_of_ble_eq_true rfl) dX4_readChain_110 rfl ?_
    refine b_if_ne (tgt := 119) (pc := 113) X dX4_readChain_113 (by decide) hf (fun hf => ?_) (fun hf => ?_)
    · refine r_aload (pc := 116) X dX4_readChain_116 4 rfl ?_
      exact z_aret (pc := 118) X hr hf dX4_readChain_118
    · refine r_aload_n (x := some 24) (pc := 119) X dX4_readChain_119 0 rfl ?_
      refine r_dup (pc := 120) X dX4_readChain_120 rfl ?_
      refine r_get (j := 2) (pc := 121) X ce_24 rfl inT4 (by decide) w_188 rfl dX4_readChain_121 ?_
      refine r_iconst (v := 1) (pc := 124) X dX4_readChain_124 (by decide) ?_
      refine r_iadd (pc := 125) X dX4_readChain_125 ?_
      refine z_put (j := 2) (pc := 126) X ce_24 rfl inT4 tyX4 tyX4_ok nmX4 (by decide) w_188 rfl (tyX4_ok 2 (by decide)) rfl rfl (Nat.le_of_ble_eq_true rfl) (cp_1538 _) rfl rfl dX4_readChain_126 hf (fun s4 hf => ?_)
      refine r_iinc (v := l6 + 1) (lv' := [(0, .ref (B + 24)), (1, .int l1), (2, .int l2), (3, .int l3), (4, rfB B t0), (5, .int x2.1), (6, .int (l6 + 1))]) (pc := 129) X dX4_readChain_129 6 rfl rfl (by decide) [1, 2, 3, 4, 5, 6, 0] rfl ?_
      refine r_goto (tgt := 20) (pc := 132) X dX4_readChain_132 (by decide) ?_
      exact hK20 hf
set_option maxHeartbeats 1000000 in
theorem c_f_Reader_readChain_b60 {R : Nat → St → Int32 → Int32 → Option (Option Nat × St)} {fr lo : Nat} {F Z : Nat} {Γ : Ga} {D : DD} {B : Nat} {r : Option Nat} {s' : St} (hR : HRD R Z fr lo) (X : Cx Γ RX4 cX4_readChain 8 D B (RM Γ B Z (fr + 4) (lo + 82))) (Y : Xx Γ B) (hr : (Gme Γ).sig.returnType = (some (.object "Pagerloom$Node"))) {K20 : St → Int32 → Int32 → Int32 → Option Nat → Int32 → Int32 → Option (Option Nat × St)} (hK20 : ∀ {s : St} {l1 : Int32} {l2 : Int32} {l3 : Int32} {l4 : Option Nat} {l5 : Int32} {l6 : Int32}, K20 s l1 l2 l3 l4 l5 l6 = some (r, s') → V Γ D B true 8 (QX Γ D B true s' (.inl (some (rfB B r))) (RZ Γ B (sz s')) (12 * RZ Γ B (sz s'))) (kz Γ B Z s) (12 * kz Γ B Z s) s 20 [(0, .ref (B + 24)), (1, .int l1), (2, .int l2), (3, .int l3), (4, rfB B l4), (5, .int l5), (6, .int l6)] []) {s : St} {l1 : Int32} {l2 : Int32} {l3 : Int32} {l4 : Option Nat} {l5 : Int32} {l6 : Int32} {t0 : Option Nat} (hf : f_Reader_readChain_b60 R F Z K20 s l1 l2 l3 l4 l5 l6 t0 = some (r, s')) : V Γ D B true 8 (QX Γ D B true s' (.inl (some (rfB B r))) (RZ Γ B (sz s')) (12 * RZ Γ B (sz s'))) (kz Γ B Z s) (12 * kz Γ B Z s) s 60 [(0, .ref (B + 24)), (1, .int l1), (2, .int l2), (3, .int l3), (4, rfB B l4), (5, .int l5), (6, .int l6)] [rfB B t0] := by
  unfold f_Reader_readChain_b60 at hf
  refine r_astore (pc := 60) (lv' := [(0, .ref (B + 24)), (1, .int l1), (2, .int l2), (3, .int l3), (4, rfB B l4), (5, .int l5), (6, .int l6), (7, rfB B t0)]) X dX4_readChain_60 (by decide) [1, 2, 3, 4, 5, 6, 7, 0] rfl ?_
  refine r_aload (pc := 62) X dX4_readChain_62 7 rfl ?_
  refine b_ifnonnull (tgt := 69) (pc := 64) X dX4_readChain_64 (by decide) hf (fun hf => ?_) (fun hf => ?_)
  · refine r_aconst_null (pc := 67) X dX4_readChain_67 ?_
    exact z_aret (pc := 68) X hr hf dX4_readChain_68
  · refine r_iload (pc := 69) X dX4_readChain_69 6 rfl ?_
    refine b_if_ne (tgt := 79) (pc := 71) X dX4_readChain_71 (by decide) hf (fun hf => ?_) (fun hf => ?_)
    · refine r_aload (pc := 74) X dX4_readChain_74 7 rfl ?_
      refine r_goto (tgt := 93) (pc := 76) X dX4_readChain_76 (by decide) ?_
      refine r_forget (lv' := [(0, .ref (B + 24)), (1, .int l1), (2, .int l2), (3, .int l3), (6, .int l6)]) [0, 1, 2, 3, 6] rfl ?_
      exact c_f_Reader_readChain_b93 hR X Y hr hK20 hf
    · refine z_new (pc := 79) X rfl inT3 tyX3 tyX3_ok w_651 w_652 w_46 rfl hdv3 (by decide) dX4_readChain_79 hf (fun s5 hf => ?_)
      refine r_dup (pc := 82) X dX4_readChain_82 rfl ?_
      refine r_iload (pc := 83) X dX4_readChain_83 5 rfl ?_
      refine r_iconst (v := 0) (pc := 85) X dX4_readChain_85 (by decide) ?_
      refine r_aload (pc := 86) X dX4_readChain_86 4 rfl ?_
      refine r_aload (pc := 88) X dX4_readChain_88 7 rfl ?_
      refine b_recv (w := true) (B := B) (D := D) rfl hf (fun a hx hrc hf => ?_)
      refine bnd hf (fun x6 h6 hf => ?_)
      refine z_callI (As := [.int l5, .int 0, rfB B l4, rfB B t0]) (st := [rfB B (some (sz s))]) (pc := 90) X (c_f_Node_init h6) (by rw [hx]; rfl) w_653 w_654 w_46 w_655 rfl hdS_X3_init (by omega) (Nat.le_of_ble_eq_true rfl) dX4_readChain_90 (by rw [hx]; rfl) ?_
      refine r_forget (lv' := [(0, .ref (B + 24)), (1, .int l1), (2, .int l2), (3, .int l3), (6, .int l6)]) [0, 1, 2, 3, 6] rfl ?_
      exact c_f_Reader_readChain_b93 hR X Y hr hK20 hf
set_option maxHeartbeats 1000000 in
theorem c_f_Reader_readChain_b20 {R : Nat → St → Int32 → Int32 → Option (Option Nat × St)} {fr lo : Nat} {F Z : Nat} {Γ : Ga} {D : DD} {B : Nat} {r : Option Nat} {s' : St} (hR : HRD R Z fr lo) (X : Cx Γ RX4 cX4_readChain 8 D B (RM Γ B Z (fr + 4) (lo + 82))) (Y : Xx Γ B) (hr : (Gme Γ).sig.returnType = (some (.object "Pagerloom$Node"))) : ∀ (n : Nat) {s : St} {l1 : Int32} {l2 : Int32} {l3 : Int32} {l4 : Option Nat} {l5 : Int32} {l6 : Int32}, f_Reader_readChain_b20 R F Z n s l1 l2 l3 l4 l5 l6 = some (r, s') → V Γ D B true 8 (QX Γ D B true s' (.inl (some (rfB B r))) (RZ Γ B (sz s')) (12 * RZ Γ B (sz s'))) (kz Γ B Z s) (12 * kz Γ B Z s) s 20 [(0, .ref (B + 24)), (1, .int l1), (2, .int l2), (3, .int l3), (4, rfB B l4), (5, .int l5), (6, .int l6)] [] := by
  intro n
  induction n with
  | zero => intro s l1 l2 l3 l4 l5 l6 hf; rw [f_Reader_readChain_b20] at hf; cases hf
  | succ n ih =>
    intro s l1 l2 l3 l4 l5 l6 hf
    rw [f_Reader_readChain_b20] at hf
    refine r_iload (pc := 20) X dX4_readChain_20 6 rfl ?_
    refine r_iload_n (pc := 22) X dX4_readChain_22 3 rfl ?_
    refine b_icmp_gt (tgt := 135) (pc := 23) X dX4_readChain_23 (by decide) hf (fun hf => ?_) (fun hf => ?_)
    · refine r_aconst_null (pc := 135) X dX4_readChain_135 ?_
      exact z_aret (pc := 136) X hr hf dX4_readChain_136
    · refine r_iload_n (pc := 26) X dX4_readChain_26 1 rfl ?_
      refine r_iconst (v := 2) (pc := 27) X dX4_readChain_27 (by decide) ?_
      refine b_icmp_ne (tgt := 39) (pc := 28) X dX4_readChain_28 (by decide) hf (fun hf => ?_) (fun hf => ?_)
      · refine r_aload_n (x := some 24) (pc := 31) X dX4_readChain_31 0 rfl ?_
        refine r_iload_n (pc := 32) X dX4_readChain_32 2 rfl ?_
        refine bnd hf (fun x1 h1 hf => ?_)
        refine ifo hf (fun hz hf => ?_)
        refine z_callXVq (As := [.int l2]) (st := []) (pc := 33) X Y (hR.2.1 h1) rfl w_640 w_642 w_13 w_41 w_643 hdV_X4_readUnit (Rc.s rfl ce_24) (by omega) hz (Nat.le_of_ble_eq_true rfl) dX4_readChain_33 rfl ?_
        refine r_goto (tgt := 60) (pc := 36) X dX4_readChain_36 (by decide) ?_
        exact c_f_Reader_readChain_b60 hR X Y hr (fun hf => ih hf) hf
      · refine r_iload_n (pc := 39) X dX4_readChain_39 1 rfl ?_
        refine r_iconst (v := 4) (pc := 40) X dX4_readChain_40 (by decide) ?_
        refine b_icmp_ne (tgt := 52) (pc := 41) X dX4_readChain_41 (by decide) hf (fun hf => ?_) (fun hf => ?_)
        · refine r_aload_n (x := some 24) (pc := 44) X dX4_readChain_44 0 rfl ?_
          refine r_iload_n (pc := 45) X dX4_readChain_45 2 rfl ?_
          refine bnd hf (fun x7 h7 hf => ?_)
          refine ifo hf (fun hz hf => ?_)
          refine z_callXVq (As := [.int l2]) (st := []) (pc := 46) X Y (hR.2.2.2 h7) rfl w_695 w_697 w_19 w_41 w_698 hdV_X4_readTerm (Rc.s rfl ce_24) (by omega) hz (Nat.le_of_ble_eq_true rfl) dX4_readChain_46 rfl ?_
          refine r_goto (tgt := 60) (pc := 49) X dX4_readChain_49 (by decide) ?_
          exact c_f_Reader_readChain_b60 hR X Y hr (fun hf => ih hf) hf
        · refine r_aload_n (x := some 24) (pc := 52) X dX4_readChain_52 0 rfl ?_
          refine r_iload_n (pc := 53) X dX4_readChain_53 1 rfl ?_
          refine r_iconst (v := 1) (pc := 54) X dX4_readChain_54 (by decide) ?_
          refine r_iadd (pc := 55) X dX4_readChain_55 ?_
          refine r_iload_n (pc := 56) X dX4_readChain_56 2 rfl ?_
          refine bnd hf (fun x8 h8 hf => ?_)
          refine ifo hf (fun hz hf => ?_)
          refine z_callXVq (As := [.int (l1 + 1), .int l2]) (st := []) (pc := 57) X Y (hR.1 h8) rfl w_636 w_638 w_12 w_41 w_639 hdV_X4_readChain (Rc.s rfl ce_24) (by omega) hz (Nat.le_of_ble_eq_true rfl) dX4_readChain_57 rfl ?_
          exact c_f_Reader_readChain_b60 hR X Y hr (fun hf => ih hf) hf
set_option maxHeartbeats 1000000 in
theorem c_f_Reader_readChain {R : Nat → St → Int32 → Int32 → Option (Option Nat × St)} {fr lo : Nat} {F Z : Nat} {s : St} {p1 : Int32} {p2 : Int32} {r : Option Nat} {s' : St} (hR : HRD R Z fr lo) (hf : f_Reader_readChain R F Z s p1 p2 = some (r, s')) : CX true yX4_readChain (Cond.code yX4_readChain cX4_readChain 8 (some (.object "Pagerloom$Node"))) (fr + 4) (lo + 82) (Z - sz s) (12 * (Z - sz s)) (fun B => [.ref (B + 24), .int p1, .int p2]) s (fun B => .inl (some (rfB B r))) s' (sz s' - sz s) (12 * (sz s' - sz s)) := by
  refine CX.ofZ (fun B => [(0, .ref (B + 24)), (1, .int p1), (2, .int p2)]) (by decide +kernel) (fun _ => rfl) (fun _ => (by simp [lg_sl, rfB_cat, catI, catL, catR])) (fun Γ D B X Y hr => ?_)
  have X : Cx Γ RX4 cX4_readChain 8 D B (RM Γ B Z (fr + 4) (lo + 82)) := X
  unfold f_Reader_readChain at hf
  refine r_iload_n (pc := 0) X dX4_readChain_0 1 rfl ?_
  refine b_if_ne (tgt := 8) (pc := 1) X dX4_readChain_1 (by decide) hf (fun hf => ?_) (fun hf => ?_)
  · refine r_iconst (v := 1) (pc := 4) X dX4_readChain_4 (by decide) ?_
    refine r_goto (tgt := 10) (pc := 5) X dX4_readChain_5 (by decide) ?_
    refine r_istore_n (pc := 10) (lv' := [(0, .ref (B + 24)), (1, .int p1), (2, .int p2), (3, .int 1)]) X dX4_readChain_10 (by decide) [1, 2, 3, 0] rfl ?_
    refine r_aconst_null (pc := 11) X dX4_readChain_11 ?_
    refine r_astore (pc := 12) (lv' := [(0, .ref (B + 24)), (1, .int p1), (2, .int p2), (3, .int 1), (4, rfB B none)]) X dX4_readChain_12 (by decide) [1, 2, 3, 4, 0] rfl ?_
    refine r_iconst (v := 0) (pc := 14) X dX4_readChain_14 (by decide) ?_
    refine r_istore (pc := 15) (lv' := [(0, .ref (B + 24)), (1, .int p1), (2, .int p2), (3, .int 1), (4, rfB B none), (5, .int 0)]) X dX4_readChain_15 (by decide) [1, 2, 3, 4, 5, 0] (by simp [lv_pick, rfB_cat, catI, catL, catR]) ?_
    refine r_iconst (v := 0) (pc := 17) X dX4_readChain_17 (by decide) ?_
    refine r_istore (pc := 18) (lv' := [(0, .ref (B + 24)), (1, .int p1), (2, .int p2), (3, .int 1), (4, rfB B none), (5, .int 0), (6, .int 0)]) X dX4_readChain_18 (by decide) [1, 2, 3, 4, 5, 6, 0] rfl ?_
    exact c_f_Reader_readChain_b20 hR X Y hr _ hf
  · refine r_bipush (v := 40) (pc := 8) X dX4_readChain_8 (by decide) ?_
    refine r_istore_n (pc := 10) (lv' := [(0, .ref (B + 24)), (1, .int p1), (2, .int p2), (3, .int 40)]) X dX4_readChain_10 (by decide) [1, 2, 3, 0] rfl ?_
    refine r_aconst_null (pc := 11) X dX4_readChain_11 ?_
    refine r_astore (pc := 12) (lv' := [(0, .ref (B + 24)), (1, .int p1), (2, .int p2), (3, .int 40), (4, rfB B none)]) X dX4_readChain_12 (by decide) [1, 2, 3, 4, 0] rfl ?_
    refine r_iconst (v := 0) (pc := 14) X dX4_readChain_14 (by decide) ?_
    refine r_istore (pc := 15) (lv' := [(0, .ref (B + 24)), (1, .int p1), (2, .int p2), (3, .int 40), (4, rfB B none), (5, .int 0)]) X dX4_readChain_15 (by decide) [1, 2, 3, 4, 5, 0] (by simp [lv_pick, rfB_cat, catI, catL, catR]) ?_
    refine r_iconst (v := 0) (pc := 17) X dX4_readChain_17 (by decide) ?_
    refine r_istore (pc := 18) (lv' := [(0, .ref (B + 24)), (1, .int p1), (2, .int p2), (3, .int 40), (4, rfB B none), (5, .int 0), (6, .int 0)]) X dX4_readChain_18 (by decide) [1, 2, 3, 4, 5, 6, 0] rfl ?_
    exact c_f_Reader_readChain_b20 hR X Y hr _ hf
/-! f_Reader_before -/
theorem dX4_before_0 : decode cX4_before 0 = .ok (.aload_n 1, 1) := by decide +kernel
theorem dX4_before_1 : decode cX4_before 1 = .ok (.ifnonnull 7, 3) := by decide +kernel
theorem dX4_before_4 : decode cX4_before 4 = .ok (.aconst_null, 1) := by decide +kernel
theorem dX4_before_5 : decode cX4_before 5 = .ok (.goto 14, 3) := by decide +kernel
theorem dX4_before_8 : decode cX4_before 8 = .ok (.new 33, 3) := by decide +kernel
theorem dX4_before_11 : decode cX4_before 11 = .ok (.dup, 1) := by decide +kernel
theorem dX4_before_12 : decode cX4_before 12 = .ok (.iload_n 0, 1) := by decide +kernel
theorem dX4_before_13 : decode cX4_before 13 = .ok (.iconst 0, 1) := by decide +kernel
theorem dX4_before_14 : decode cX4_before 14 = .ok (.aload_n 1, 1) := by decide +kernel
theorem dX4_before_15 : decode cX4_before 15 = .ok (.aconst_null, 1) := by decide +kernel
theorem dX4_before_16 : decode cX4_before 16 = .ok (.invokespecial 35, 3) := by decide +kernel
theorem dX4_before_19 : decode cX4_before 19 = .ok (.areturn, 1) := by decide +kernel
def f_Reader_before (F Z : Nat) (s : St) (p0 : Int32) (p1 : Option Nat) : Option (Option Nat × St) :=
  if p1 = none then
    (some (none, s))
  else
    (if sz s < Z then (lt (sN s (.inl (3, fun _ => 0, fun _ => none, fun _ => 0))) fun s1 => ((dgo s1 (some (sz s)) 3).bind fun _ => ((f_Node_init F s1 (some (sz s)) p0 0 p1 none).bind fun x2 => (some ((some (sz s)), x2))))) else none)
set_option maxHeartbeats 1000000 in
theorem c_f_Reader_before {F Z : Nat} {s : St} {p0 : Int32} {p1 : Option Nat} {r : Option Nat} {s' : St} (hf : f_Reader_before F Z s p0 p1 = some (r, s')) : CX true yX4_before (Cond.code yX4_before cX4_before 2 (some (.object "Pagerloom$Node"))) (2) (36) (Z - sz s) (12 * (Z - sz s)) (fun B => [.int p0, rfB B p1]) s (fun B => .inl (some (rfB B r))) s' (sz s' - sz s) (12 * (sz s' - sz s)) := by
  refine CX.ofZ (fun B => [(0, .int p0), (1, rfB B p1)]) (by decide +kernel) (fun _ => (by simp [lv_args, rfB_cat, catI, catL, catR])) (fun _ => (by simp [lg_sl, rfB_cat, catI, catL, catR])) (fun Γ D B X Y hr => ?_)
  have X : Cx Γ RX4 cX4_before 2 D B (RM Γ B Z (2) (36)) := X
  unfold f_Reader_before at hf
  refine r_aload_n (pc := 0) X dX4_before_0 1 rfl ?_
  refine b_ifnonnull (tgt := 8) (pc := 1) X dX4_before_1 (by decide) hf (fun hf => ?_) (fun hf => ?_)
  · refine r_aconst_null (pc := 4) X dX4_before_4 ?_
    refine r_goto (tgt := 19) (pc := 5) X dX4_before_5 (by decide) ?_
    exact z_aret (pc := 19) X hr hf dX4_before_19
  · refine z_new (pc := 8) X rfl inT3 tyX3 tyX3_ok w_651 w_652 w_46 rfl hdv3 (by decide) dX4_before_8 hf (fun s1 hf => ?_)
    refine r_dup (pc := 11) X dX4_before_11 rfl ?_
    refine r_iload_n (pc := 12) X dX4_before_12 0 rfl ?_
    refine r_iconst (v := 0) (pc := 13) X dX4_before_13 (by decide) ?_
    refine r_aload_n (pc := 14) X dX4_before_14 1 rfl ?_
    refine r_aconst_null (pc := 15) X dX4_before_15 ?_
    refine b_recv (w := true) (B := B) (D := D) rfl hf (fun a hx hrc hf => ?_)
    refine bnd hf (fun x2 h2 hf => ?_)
    refine z_callI (As := [.int p0, .int 0, rfB B p1, rfB B none]) (st := [rfB B (some (sz s))]) (pc := 16) X (c_f_Node_init h2) (by rw [hx]; rfl) w_653 w_654 w_46 w_655 rfl hdS_X3_init (by decide) (Nat.le_of_ble_eq_true rfl) dX4_before_16 (by rw [hx]; rfl) ?_
    exact z_aret (pc := 19) X hr hf dX4_before_19
/-! f_Reader_readNumber -/
theorem dX4_readNumber_0 : decode cX4_readNumber 0 = .ok (.iconst 0, 1) := by decide +kernel
theorem dX4_readNumber_1 : decode cX4_readNumber 1 = .ok (.istore_n 1, 1) := by decide +kernel
theorem dX4_readNumber_2 : decode cX4_readNumber 2 = .ok (.iconst 0, 1) := by decide +kernel
theorem dX4_readNumber_3 : decode cX4_readNumber 3 = .ok (.istore_n 2, 1) := by decide +kernel
theorem dX4_readNumber_4 : decode cX4_readNumber 4 = .ok (.iload_n 2, 1) := by decide +kernel
theorem dX4_readNumber_5 : decode cX4_readNumber 5 = .ok (.iconst 4, 1) := by decide +kernel
theorem dX4_readNumber_6 : decode cX4_readNumber 6 = .ok (.if_icmp .ge 42, 3) := by decide +kernel
theorem dX4_readNumber_9 : decode cX4_readNumber 9 = .ok (.aload_n 0, 1) := by decide +kernel
theorem dX4_readNumber_10 : decode cX4_readNumber 10 = .ok (.invokevirtual 38, 3) := by decide +kernel
theorem dX4_readNumber_13 : decode cX4_readNumber 13 = .ok (.invokestatic 77, 3) := by decide +kernel
theorem dX4_readNumber_16 : decode cX4_readNumber 16 = .ok (.ifCond .eq 32, 3) := by decide +kernel
theorem dX4_readNumber_19 : decode cX4_readNumber 19 = .ok (.bipush 10, 2) := by decide +kernel
theorem dX4_readNumber_21 : decode cX4_readNumber 21 = .ok (.iload_n 1, 1) := by decide +kernel
theorem dX4_readNumber_22 : decode cX4_readNumber 22 = .ok (.imul, 1) := by decide +kernel
theorem dX4_readNumber_23 : decode cX4_readNumber 23 = .ok (.aload_n 0, 1) := by decide +kernel
theorem dX4_readNumber_24 : decode cX4_readNumber 24 = .ok (.invokevirtual 38, 3) := by decide +kernel
theorem dX4_readNumber_27 : decode cX4_readNumber 27 = .ok (.bipush 48, 2) := by decide +kernel
theorem dX4_readNumber_29 : decode cX4_readNumber 29 = .ok (.isub, 1) := by decide +kernel
theorem dX4_readNumber_30 : decode cX4_readNumber 30 = .ok (.iadd, 1) := by decide +kernel
theorem dX4_readNumber_31 : decode cX4_readNumber 31 = .ok (.istore_n 1, 1) := by decide +kernel
theorem dX4_readNumber_32 : decode cX4_readNumber 32 = .ok (.iinc 2 1, 3) := by decide +kernel
theorem dX4_readNumber_35 : decode cX4_readNumber 35 = .ok (.aload_n 0, 1) := by decide +kernel
theorem dX4_readNumber_36 : decode cX4_readNumber 36 = .ok (.dup, 1) := by decide +kernel
theorem dX4_readNumber_37 : decode cX4_readNumber 37 = .ok (.getfield 19, 3) := by decide +kernel
theorem dX4_readNumber_40 : decode cX4_readNumber 40 = .ok (.iconst 1, 1) := by decide +kernel
theorem dX4_readNumber_41 : decode cX4_readNumber 41 = .ok (.iadd, 1) := by decide +kernel
theorem dX4_readNumber_42 : decode cX4_readNumber 42 = .ok (.putfield 19, 3) := by decide +kernel
theorem dX4_readNumber_45 : decode cX4_readNumber 45 = .ok (.goto (-41), 3) := by decide +kernel
theorem dX4_readNumber_48 : decode cX4_readNumber 48 = .ok (.iload_n 2, 1) := by decide +kernel
theorem dX4_readNumber_49 : decode cX4_readNumber 49 = .ok (.ifCond .ne 7, 3) := by decide +kernel
theorem dX4_readNumber_52 : decode cX4_readNumber 52 = .ok (.aconst_null, 1) := by decide +kernel
theorem dX4_readNumber_53 : decode cX4_readNumber 53 = .ok (.goto 15, 3) := by decide +kernel
theorem dX4_readNumber_56 : decode cX4_readNumber 56 = .ok (.new 33, 3) := by decide +kernel
theorem dX4_readNumber_59 : decode cX4_readNumber 59 = .ok (.dup, 1) := by decide +kernel
theorem dX4_readNumber_60 : decode cX4_readNumber 60 = .ok (.bipush 35, 2) := by decide +kernel
theorem dX4_readNumber_62 : decode cX4_readNumber 62 = .ok (.iload_n 1, 1) := by decide +kernel
theorem dX4_readNumber_63 : decode cX4_readNumber 63 = .ok (.aconst_null, 1) := by decide +kernel
theorem dX4_readNumber_64 : decode cX4_readNumber 64 = .ok (.aconst_null, 1) := by decide +kernel
theorem dX4_readNumber_65 : decode cX4_readNumber 65 = .ok (.invokespecial 35, 3) := by decide +kernel
theorem dX4_readNumber_68 : decode cX4_readNumber 68 = .ok (.areturn, 1) := by decide +kernel
def f_Reader_readNumber_b4 (F Z : Nat) : Nat → St → Int32 → Int32 → Option (Option Nat × St)
  | 0, _, _, _ => none
  | n + 1, s, l1, l2 =>
    if 4 ≤ l2 then
      (if l2 = 0 then
        (some (none, s))
      else
        (if sz s < Z then (lt (sN s (.inl (3, fun _ => 0, fun _ => none, fun _ => 0))) fun s1 => ((dgo s1 (some (sz s)) 3).bind fun _ => ((f_Node_init F s1 (some (sz s)) 35 l1 none none).bind fun x2 => (some ((some (sz s)), x2))))) else none))
    else
      ((f_Reader_here F s).bind fun x3 => ((f_P_isDigit F x3.2 x3.1).bind fun x4 => (if x4.1 = 0 then
        (if l2 = 0 then
          (some (none, x4.2))
        else
          (if sz x4.2 < Z then (lt (sN x4.2 (.inl (3, fun _ => 0, fun _ => none, fun _ => 0))) fun s5 => ((dgo s5 (some (sz x4.2)) 3).bind fun _ => ((f_Node_init F s5 (some (sz x4.2)) 35 l1 none none).bind fun x6 => (some ((some (sz x4.2)), x6))))) else none))
      else
        ((f_Reader_here F x4.2).bind fun x7 => (lt (sI x7.2 1538 ((gI x7.2 1538) + 1)) fun s8 => (f_Reader_readNumber_b4 F Z n s8 (((10 : Int32) * l1) + (x7.1 - 48)) (l2 + 1)))))))
def f_Reader_readNumber (F Z : Nat) (s : St)  : Option (Option Nat × St) :=
  f_Reader_readNumber_b4 F Z F s 0 0
set_option maxHeartbeats 1000000 in
theorem c_f_Reader_readNumber_b4 {F Z : Nat} {Γ : Ga} {D : DD} {B : Nat} {r : Option Nat} {s' : St} (X : Cx Γ RX4 cX4_readNumber 3 D B (RM Γ B Z (2) (36))) (Y : Xx Γ B) (hr : (Gme Γ).sig.returnType = (some (.object "Pagerloom$Node"))) : ∀ (n : Nat) {s : St} {l1 : Int32} {l2 : Int32}, f_Reader_readNumber_b4 F Z n s l1 l2 = some (r, s') → V Γ D B true 3 (QX Γ D B true s' (.inl (some (rfB B r))) (RZ Γ B (sz s')) (12 * RZ Γ B (sz s'))) (kz Γ B Z s) (12 * kz Γ B Z s) s 4 [(0, .ref (B + 24)), (1, .int l1), (2, .int l2)] [] := by
  intro n
  induction n with
  | zero => intro s l1 l2 hf; rw [f_Reader_readNumber_b4] at hf; cases hf
  | succ n ih =>
    intro s l1 l2 hf
    rw [f_Reader_readNumber_b4] at hf
    refine r_iload_n (pc := 4) X dX4_readNumber_4 2 rfl ?_
    refine r_iconst (v := 4) (pc := 5) X dX4_readNumber_5 (by decide) ?_
    refine b_icmp_ge (tgt := 48) (pc := 6) X dX4_readNumber_6 (by decide) hf (fun hf => ?_) (fun hf => ?_)
    · refine r_iload_n (pc := 48) X dX4_readNumber_48 2 rfl ?_
      refine b_if_ne (tgt := 56) (pc := 49) X dX4_readNumber_49 (by decide) hf (fun hf => ?_) (fun hf => ?_)
      · refine r_aconst_null (pc := 52) X dX4_readNumber_52 ?_
        refine r_goto (tgt := 68) (pc := 53) X dX4_readNumber_53 (by decide) ?_
        exact z_aret (pc := 68) X hr hf dX4_readNumber_68
      · refine z_new (pc := 56) X rfl inT3 tyX3 tyX3_ok w_651 w_652 w_46 rfl hdv3 (by decide) dX4_readNumber_56 hf (fun s1 hf => ?_)
        refine r_dup (pc := 59) X dX4_readNumber_59 rfl ?_
        refine r_bipush (v := 35) (pc := 60) X dX4_readNumber_60 (by decide) ?_
        refine r_iload_n (pc := 62) X dX4_readNumber_62 1 rfl ?_
        refine r_aconst_null (pc := 63) X dX4_readNumber_63 ?_
        refine r_aconst_null (pc := 64) X dX4_readNumber_64 ?_
        refine b_recv (w := true) (B := B) (D := D) rfl hf (fun a hx hrc hf => ?_)
        refine bnd hf (fun x2 h2 hf => ?_)
        refine z_callI (As := [.int 35, .int l1, rfB B none, rfB B none]) (st := [rfB B (some (sz s))]) (pc := 65) X (c_f_Node_init h2) (by rw [hx]; rfl) w_653 w_654 w_46 w_655 rfl hdS_X3_init (by decide) (Nat.le_of_ble_eq_true rfl) dX4_readNumber_65 (by rw [hx]; rfl) ?_
        exact z_aret (pc := 68) X hr hf dX4_readNumber_68
    · refine r_aload_n (x := some 24) (pc := 9) X dX4_readNumber_9 0 rfl ?_
      refine bnd hf (fun x3 h3 hf => ?_)
      refine z_callVi (As := []) (st := []) (pc := 10) X (c_f_Reader_here h3) rfl w_644 w_646 w_14 w_41 w_647 hdV_X4_here (Rc.s rfl ce_24) (by decide) (Nat.le_of_ble_eq_true rfl) dX4_readNumber_10 rfl ?_
      refine bnd hf (fun x4 h4 hf => ?_)
      refine z_callSNi (As := [.int x3.1]) (st := []) (pc := 13) X (c_f_P_isDigit h4) rfl wn_692 w_693 w_36 w_694 hdS_X10_isDigit (by decide) (Nat.le_of_ble_eq_true rfl) dX4_readNumber_13 rfl ?_
      refine b_if_eq (tgt := 48) (pc := 16) X dX4_readNumber_16 (by decide) hf (fun hf => ?_) (fun hf => ?_)
      · refine r_iload_n (pc := 48) X dX4_readNumber_48 2 rfl ?_
        refine b_if_ne (tgt := 56) (pc := 49) X dX4_readNumber_49 (by decide) hf (fun hf => ?_) (fun hf => ?_)
        · refine r_aconst_null (pc := 52) X dX4_readNumber_52 ?_
          refine r_goto (tgt := 68) (pc := 53) X dX4_readNumber_53 (by decide) ?_
          exact z_aret (pc := 68) X hr hf dX4_readNumber_68
        · refine z_new (pc := 56) X rfl inT3 tyX3 tyX3_ok w_651 w_652 w_46 rfl hdv3 (by decide) dX4_readNumber_56 hf (fun s5 hf => ?_)
          refine r_dup (pc := 59) X dX4_readNumber_59 rfl ?_
          refine r_bipush (v := 35) (pc := 60) X dX4_readNumber_60 (by decide) ?_
          refine r_iload_n (pc := 62) X dX4_readNumber_62 1 rfl ?_
          refine r_aconst_null (pc := 63) X dX4_readNumber_63 ?_
          refine r_aconst_null (pc := 64) X dX4_readNumber_64 ?_
          refine b_recv (w := true) (B := B) (D := D) rfl hf (fun a hx hrc hf => ?_)
          refine bnd hf (fun x6 h6 hf => ?_)
          refine z_callI (As := [.int 35, .int l1, rfB B none, rfB B none]) (st := [rfB B (some (sz x4.2))]) (pc := 65) X (c_f_Node_init h6) (by rw [hx]; rfl) w_653 w_654 w_46 w_655 rfl hdS_X3_init (by decide) (Nat.le_of_ble_eq_true rfl) dX4_readNumber_65 (by rw [hx]; rfl) ?_
          exact z_aret (pc := 68) X hr hf dX4_readNumber_68
      · refine r_bipush (v := 10) (pc := 19) X dX4_readNumber_19 (by decide) ?_
        refine r_iload_n (pc := 21) X dX4_readNumber_21 1 rfl ?_
        refine r_imul (pc := 22) X dX4_readNumber_22 ?_
        refine r_aload_n (x := some 24) (pc := 23) X dX4_readNumber_23 0 rfl ?_
        refine bnd hf (fun x7 h7 hf => ?_)
        refine z_callVi (As := []) (st := [.int ((10 : Int32) * l1)]) (pc := 24) X (c_f_Reader_here h7) rfl w_644 w_646 w_14 w_41 w_647 hdV_X4_here (Rc.s rfl ce_24) (by decide) (Nat.le_of_ble_eq_true rfl) dX4_readNumber_24 rfl ?_
        refine r_bipush (v := 48) (pc := 27) X dX4_readNumber_27 (by decide) ?_
        refine r_isub (pc := 29) X dX4_readNumber_29 ?_
        refine r_iadd (pc := 30) X dX4_readNumber_30 ?_
        refine r_istore_n (pc := 31) (lv' := [(0, .ref (B + 24)), (1, .int (((10 : Int32) * l1) + (x7.1 - 48))), (2, .int l2)]) X dX4_readNumber_31 (by decide) [1, 0, 2] rfl ?_
        refine r_iinc (v := l2 + 1) (lv' := [(0, .ref (B + 24)), (1, .int (((10 : Int32) * l1) + (x7.1 - 48))), (2, .int (l2 + 1))]) (pc := 32) X dX4_readNumber_32 2 rfl rfl (by decide) [1, 2, 0] rfl ?_
        refine r_aload_n (x := some 24) (pc := 35) X dX4_readNumber_35 0 rfl ?_
        refine r_dup (pc := 36) X dX4_readNumber_36 rfl ?_
        refine r_get (j := 2) (pc := 37) X ce_24 rfl inT4 (by decide) w_188 rfl dX4_readNumber_37 ?_
        refine r_iconst (v := 1) (pc := 40) X dX4_readNumber_40 (by decide) ?_
        refine r_iadd (pc := 41) X dX4_readNumber_41 ?_
        refine z_put (j := 2) (pc := 42) X ce_24 rfl inT4 tyX4 tyX4_ok nmX4 (by decide) w_188 rfl (tyX4_ok 2 (by decide)) rfl rfl (Nat.le_of_ble_eq_true rfl) (cp_1538 _) rfl rfl dX4_readNumber_42 hf (fun s8 hf => ?_)
        refine r_goto (tgt := 4) (pc := 45) X dX4_readNumber_45 (by decide) ?_
        exact ih hf
set_option maxHeartbeats 1000000 in
theorem c_f_Reader_readNumber {F Z : Nat} {s : St}  {r : Option Nat} {s' : St} (hf : f_Reader_readNumber F Z s  = some (r, s')) : CX true yX4_readNumber (Cond.code yX4_readNumber cX4_readNumber 3 (some (.object "Pagerloom$Node"))) (2) (36) (Z - sz s) (12 * (Z - sz s)) (fun B => [.ref (B + 24)]) s (fun B => .inl (some (rfB B r))) s' (sz s' - sz s) (12 * (sz s' - sz s)) := by
  refine CX.ofZ (fun B => [(0, .ref (B + 24))]) (by decide +kernel) (fun _ => rfl) (fun _ => (by simp [lg_sl, rfB_cat, catI, catL, catR])) (fun Γ D B X Y hr => ?_)
  have X : Cx Γ RX4 cX4_readNumber 3 D B (RM Γ B Z (2) (36)) := X
  unfold f_Reader_readNumber at hf
  refine r_iconst (v := 0) (pc := 0) X dX4_readNumber_0 (by decide) ?_
  refine r_istore_n (pc := 1) (lv' := [(0, .ref (B + 24)), (1, .int 0)]) X dX4_readNumber_1 (by decide) [1, 0] rfl ?_
  refine r_iconst (v := 0) (pc := 2) X dX4_readNumber_2 (by decide) ?_
  refine r_istore_n (pc := 3) (lv' := [(0, .ref (B + 24)), (1, .int 0), (2, .int 0)]) X dX4_readNumber_3 (by decide) [1, 2, 0] rfl ?_
  exact c_f_Reader_readNumber_b4 X Y hr _ hf
/-! f_Reader_readUnit -/
theorem dX4_readUnit_0 : decode cX4_readUnit 0 = .ok (.iload_n 1, 1) := by decide +kernel
theorem dX4_readUnit_1 : decode cX4_readUnit 1 = .ok (.bipush 40, 2) := by decide +kernel
theorem dX4_readUnit_3 : decode cX4_readUnit 3 = .ok (.if_icmp .le 5, 3) := by decide +kernel
theorem dX4_readUnit_6 : decode cX4_readUnit 6 = .ok (.aconst_null, 1) := by decide +kernel
theorem dX4_readUnit_7 : decode cX4_readUnit 7 = .ok (.areturn, 1) := by decide +kernel
theorem dX4_readUnit_8 : decode cX4_readUnit 8 = .ok (.aload_n 0, 1) := by decide +kernel
theorem dX4_readUnit_9 : decode cX4_readUnit 9 = .ok (.invokevirtual 38, 3) := by decide +kernel
theorem dX4_readUnit_12 : decode cX4_readUnit 12 = .ok (.istore_n 2, 1) := by decide +kernel
theorem dX4_readUnit_13 : decode cX4_readUnit 13 = .ok (.iload_n 2, 1) := by decide +kernel
theorem dX4_readUnit_14 : decode cX4_readUnit 14 = .ok (.bipush 45, 2) := by decide +kernel
theorem dX4_readUnit_16 : decode cX4_readUnit 16 = .ok (.if_icmp .ne 26, 3) := by decide +kernel
theorem dX4_readUnit_19 : decode cX4_readUnit 19 = .ok (.aload_n 0, 1) := by decide +kernel
theorem dX4_readUnit_20 : decode cX4_readUnit 20 = .ok (.dup, 1) := by decide +kernel
theorem dX4_readUnit_21 : decode cX4_readUnit 21 = .ok (.getfield 19, 3) := by decide +kernel
theorem dX4_readUnit_24 : decode cX4_readUnit 24 = .ok (.iconst 1, 1) := by decide +kernel
theorem dX4_readUnit_25 : decode cX4_readUnit 25 = .ok (.iadd, 1) := by decide +kernel
theorem dX4_readUnit_26 : decode cX4_readUnit 26 = .ok (.putfield 19, 3) := by decide +kernel
theorem dX4_readUnit_29 : decode cX4_readUnit 29 = .ok (.bipush 126, 2) := by decide +kernel
theorem dX4_readUnit_31 : decode cX4_readUnit 31 = .ok (.aload_n 0, 1) := by decide +kernel
theorem dX4_readUnit_32 : decode cX4_readUnit 32 = .ok (.iload_n 1, 1) := by decide +kernel
theorem dX4_readUnit_33 : decode cX4_readUnit 33 = .ok (.iconst 1, 1) := by decide +kernel
theorem dX4_readUnit_34 : decode cX4_readUnit 34 = .ok (.iadd, 1) := by decide +kernel
theorem dX4_readUnit_35 : decode cX4_readUnit 35 = .ok (.invokevirtual 26, 3) := by decide +kernel
theorem dX4_readUnit_38 : decode cX4_readUnit 38 = .ok (.invokestatic 50, 3) := by decide +kernel
theorem dX4_readUnit_41 : decode cX4_readUnit 41 = .ok (.areturn, 1) := by decide +kernel
theorem dX4_readUnit_42 : decode cX4_readUnit 42 = .ok (.iload_n 2, 1) := by decide +kernel
theorem dX4_readUnit_43 : decode cX4_readUnit 43 = .ok (.bipush 40, 2) := by decide +kernel
theorem dX4_readUnit_45 : decode cX4_readUnit 45 = .ok (.if_icmp .ne 26, 3) := by decide +kernel
theorem dX4_readUnit_48 : decode cX4_readUnit 48 = .ok (.aload_n 0, 1) := by decide +kernel
theorem dX4_readUnit_49 : decode cX4_readUnit 49 = .ok (.dup, 1) := by decide +kernel
theorem dX4_readUnit_50 : decode cX4_readUnit 50 = .ok (.getfield 19, 3) := by decide +kernel
theorem dX4_readUnit_53 : decode cX4_readUnit 53 = .ok (.iconst 1, 1) := by decide +kernel
theorem dX4_readUnit_54 : decode cX4_readUnit 54 = .ok (.iadd, 1) := by decide +kernel
theorem dX4_readUnit_55 : decode cX4_readUnit 55 = .ok (.putfield 19, 3) := by decide +kernel
theorem dX4_readUnit_58 : decode cX4_readUnit 58 = .ok (.aload_n 0, 1) := by decide +kernel
theorem dX4_readUnit_59 : decode cX4_readUnit 59 = .ok (.aload_n 0, 1) := by decide +kernel
theorem dX4_readUnit_60 : decode cX4_readUnit 60 = .ok (.iconst 0, 1) := by decide +kernel
theorem dX4_readUnit_61 : decode cX4_readUnit 61 = .ok (.iload_n 1, 1) := by decide +kernel
theorem dX4_readUnit_62 : decode cX4_readUnit 62 = .ok (.iconst 1, 1) := by decide +kernel
theorem dX4_readUnit_63 : decode cX4_readUnit 63 = .ok (.iadd, 1) := by decide +kernel
theorem dX4_readUnit_64 : decode cX4_readUnit 64 = .ok (.invokevirtual 22, 3) := by decide +kernel
theorem dX4_readUnit_67 : decode cX4_readUnit 67 = .ok (.invokevirtual 54, 3) := by decide +kernel
theorem dX4_readUnit_70 : decode cX4_readUnit 70 = .ok (.areturn, 1) := by decide +kernel
theorem dX4_readUnit_71 : decode cX4_readUnit 71 = .ok (.iload_n 2, 1) := by decide +kernel
theorem dX4_readUnit_72 : decode cX4_readUnit 72 = .ok (.invokestatic 58, 3) := by decide +kernel
theorem dX4_readUnit_75 : decode cX4_readUnit 75 = .ok (.ifCond .eq 11, 3) := by decide +kernel
theorem dX4_readUnit_78 : decode cX4_readUnit 78 = .ok (.aload_n 0, 1) := by decide +kernel
theorem dX4_readUnit_79 : decode cX4_readUnit 79 = .ok (.iload_n 1, 1) := by decide +kernel
theorem dX4_readUnit_80 : decode cX4_readUnit 80 = .ok (.invokevirtual 61, 3) := by decide +kernel
theorem dX4_readUnit_83 : decode cX4_readUnit 83 = .ok (.goto 7, 3) := by decide +kernel
theorem dX4_readUnit_86 : decode cX4_readUnit 86 = .ok (.aload_n 0, 1) := by decide +kernel
theorem dX4_readUnit_87 : decode cX4_readUnit 87 = .ok (.invokevirtual 64, 3) := by decide +kernel
theorem dX4_readUnit_90 : decode cX4_readUnit 90 = .ok (.areturn, 1) := by decide +kernel
def f_Reader_readUnit (R : Nat → St → Int32 → Int32 → Option (Option Nat × St)) (F Z : Nat) (s : St) (p1 : Int32) : Option (Option Nat × St) :=
  if p1 ≤ 40 then
    ((f_Reader_here F s).bind fun x1 => (if x1.1 = 45 then
      (lt (sI x1.2 1538 ((gI x1.2 1538) + 1)) fun s2 => ((R 1 s2 (p1 + 1) 0).bind fun x3 => (if sz x3.2 ≤ Z then ((f_Reader_before F Z x3.2 126 x3.1).bind fun x4 => (if sz x4.2 ≤ Z then (some (x4.1, x4.2)) else none)) else none)))
    else
      (if x1.1 = 40 then
        (lt (sI x1.2 1538 ((gI x1.2 1538) + 1)) fun s5 => ((R 0 s5 0 (p1 + 1)).bind fun x6 => (if sz x6.2 ≤ Z then ((f_Reader_closed F x6.2 x6.1).bind fun x7 => (some (x7.1, x7.2))) else none)))
      else
        ((f_P_isAggregate F x1.2 x1.1).bind fun x8 => (if x8.1 = 0 then
          ((f_Reader_readNumber F Z x8.2).bind fun x9 => (if sz x9.2 ≤ Z then (some (x9.1, x9.2)) else none))
        else
          ((R 2 x8.2 p1 0).bind fun x10 => (if sz x10.2 ≤ Z then (some (x10.1, x10.2)) else none)))))))
  else
    (some (none, s))
set_option maxHeartbeats 1000000 in
theorem c_f_Reader_readUnit {R : Nat → St → Int32 → Int32 → Option (Option Nat × St)} {fr lo : Nat} {F Z : Nat} {s : St} {p1 : Int32} {r : Option Nat} {s' : St} (hR : HRD R Z fr lo) (hf : f_Reader_readUnit R F Z s p1 = some (r, s')) : CX true yX4_readUnit (Cond.code yX4_readUnit cX4_readUnit 3 (some (.object "Pagerloom$Node"))) (fr + 4) (lo + 82) (Z - sz s) (12 * (Z - sz s)) (fun B => [.ref (B + 24), .int p1]) s (fun B => .inl (some (rfB B r))) s' (sz s' - sz s) (12 * (sz s' - sz s)) := by
  refine CX.ofZ (fun B => [(0, .ref (B + 24)), (1, .int p1)]) (by decide +kernel) (fun _ => rfl) (fun _ => (by simp [lg_sl, rfB_cat, catI, catL, catR])) (fun Γ D B X Y hr => ?_)
  have X : Cx Γ RX4 cX4_readUnit 3 D B (RM Γ B Z (fr + 4) (lo + 82)) := X
  unfold f_Reader_readUnit at hf
  refine r_iload_n (pc := 0) X dX4_readUnit_0 1 rfl ?_
  refine r_bipush (v := 40) (pc := 1) X dX4_readUnit_1 (by decide) ?_
  refine b_icmp_le (tgt := 8) (pc := 3) X dX4_readUnit_3 (by decide) hf (fun hf => ?_) (fun hf => ?_)
  · refine r_aload_n (x := some 24) (pc := 8) X dX4_readUnit_8 0 rfl ?_
    refine bnd hf (fun x1 h1 hf => ?_)
    refine z_callVi (As := []) (st := []) (pc := 9) X (c_f_Reader_here h1) rfl w_644 w_646 w_14 w_41 w_647 hdV_X4_here (Rc.s rfl ce_24) (by omega) (Nat.le_of_ble_eq_true rfl) dX4_readUnit_9 rfl ?_
    refine r_istore_n (pc := 12) (lv' := [(0, .ref (B + 24)), (1, .int p1), (2, .int x1.1)]) X dX4_readUnit_12 (by decide) [1, 2, 0] rfl ?_
    refine r_iload_n (pc := 13) X dX4_readUnit_13 2 rfl ?_
    refine r_bipush (v := 45) (pc := 14) X dX4_readUnit_14 (by decide) ?_
    refine b_icmp_ne (tgt := 42) (pc := 16) X dX4_readUnit_16 (by decide) hf (fun hf => ?_) (fun hf => ?_)
    · refine r_aload_n (x := some 24) (pc := 19) X dX4_readUnit_19 0 rfl ?_
      refine r_dup (pc := 20) X dX4_readUnit_20 rfl ?_
      refine r_get (j := 2) (pc := 21) X ce_24 rfl inT4 (by decide) w_188 rfl dX4_readUnit_21 ?_
      refine r_iconst (v := 1) (pc := 24) X dX4_readUnit_24 (by decide) ?_
      refine r_iadd (pc := 25) X dX4_readUnit_25 ?_
      refine z_put (j := 2) (pc := 26) X ce_24 rfl inT4 tyX4 tyX4_ok nmX4 (by decide) w_188 rfl (tyX4_ok 2 (by decide)) rfl rfl (Nat.le_of_ble_eq_true rfl) (cp_1538 _) rfl rfl dX4_readUnit_26 hf (fun s2 hf => ?_)
      refine r_bipush (v := 126) (pc := 29) X dX4_readUnit_29 (by decide) ?_
      refine r_aload_n (x := some 24) (pc := 31) X dX4_readUnit_31 0 rfl ?_
      refine r_iload_n (pc := 32) X dX4_readUnit_32 1 rfl ?_
      refine r_iconst (v := 1) (pc := 33) X dX4_readUnit_33 (by decide) ?_
      refine r_iadd (pc := 34) X dX4_readUnit_34 ?_
      refine bnd hf (fun x3 h3 hf => ?_)
      refine ifo hf (fun hz hf => ?_)
      refine z_callXVq (As := [.int (p1 + 1)]) (st := [.int 126]) (pc := 35) X Y (hR.2.1 h3) rfl w_640 w_642 w_13 w_41 w_643 hdV_X4_readUnit (Rc.s rfl ce_24) (by omega) hz (Nat.le_of_ble_eq_true rfl) dX4_readUnit_35 rfl ?_
      refine bnd hf (fun x4 h4 hf => ?_)
      refine ifo hf (fun hz hf => ?_)
      refine z_callXSq (As := [.int 126, rfB B x3.1]) (st := []) (pc := 38) X Y (c_f_Reader_before h4) rfl w_648 w_649 w_41 w_650 hdS_X4_before (by omega) hz (Nat.le_of_ble_eq_true rfl) dX4_readUnit_38 rfl ?_
      exact z_aret (pc := 41) X hr hf dX4_readUnit_41
    · refine r_iload_n (pc := 42) X dX4_readUnit_42 2 rfl ?_
      refine r_bipush (v := 40) (pc := 43) X dX4_readUnit_43 (by decide) ?_
      refine b_icmp_ne (tgt := 71) (pc := 45) X dX4_readUnit_45 (by decide) hf (fun hf => ?_) (fun hf => ?_)
      · refine r_aload_n (x := some 24) (pc := 48) X dX4_readUnit_48 0 rfl ?_
        refine r_dup (pc := 49) X dX4_readUnit_49 rfl ?_
        refine r_get (j := 2) (pc := 50) X ce_24 rfl inT4 (by decide) w_188 rfl dX4_readUnit_50 ?_
        refine r_iconst (v := 1) (pc := 53) X dX4_readUnit_53 (by decide) ?_
        refine r_iadd (pc := 54) X dX4_readUnit_54 ?_
        refine z_put (j := 2) (pc := 55) X ce_24 rfl inT4 tyX4 tyX4_ok nmX4 (by decide) w_188 rfl (tyX4_ok 2 (by decide)) rfl rfl (Nat.le_of_ble_eq_true rfl) (cp_1538 _) rfl rfl dX4_readUnit_55 hf (fun s5 hf => ?_)
        refine r_aload_n (x := some 24) (pc := 58) X dX4_readUnit_58 0 rfl ?_
        refine r_aload_n (x := some 24) (pc := 59) X dX4_readUnit_59 0 rfl ?_
        refine r_iconst (v := 0) (pc := 60) X dX4_readUnit_60 (by decide) ?_
        refine r_iload_n (pc := 61) X dX4_readUnit_61 1 rfl ?_
        refine r_iconst (v := 1) (pc := 62) X dX4_readUnit_62 (by decide) ?_
        refine r_iadd (pc := 63) X dX4_readUnit_63 ?_
        refine bnd hf (fun x6 h6 hf => ?_)
        refine ifo hf (fun hz hf => ?_)
        refine z_callXVq (As := [.int 0, .int (p1 + 1)]) (st := [.ref (B + 24)]) (pc := 64) X Y (hR.1 h6) rfl w_636 w_638 w_12 w_41 w_639 hdV_X4_readChain (Rc.s rfl ce_24) (by omega) hz (Nat.le_of_ble_eq_true rfl) dX4_readUnit_64 rfl ?_
        refine bnd hf (fun x7 h7 hf => ?_)
        refine z_callVq (As := [rfB B x6.1]) (st := []) (pc := 67) X (c_f_Reader_closed h7) rfl w_674 w_676 w_15 w_41 w_677 hdV_X4_closed (Rc.s rfl ce_24) (by omega) (Nat.le_of_ble_eq_true rfl) dX4_readUnit_67 rfl ?_
        exact z_aret (pc := 70) X hr hf dX4_readUnit_70
      · refine r_iload_n (pc := 71) X dX4_readUnit_71 2 rfl ?_
        refine bnd hf (fun x8 h8 hf => ?_)
        refine z_callSNi (As := [.int x1.1]) (st := []) (pc := 72) X (c_f_P_isAggregate h8) rfl wn_678 w_560 w_36 w_561 hdS_X10_isAggregate (by omega) (Nat.le_of_ble_eq_true rfl) dX4_readUnit_72 rfl ?_
        refine b_if_eq (tgt := 86) (pc := 75) X dX4_readUnit_75 (by decide) hf (fun hf => ?_) (fun hf => ?_)
        · refine r_aload_n (x := some 24) (pc := 86) X dX4_readUnit_86 0 rfl ?_
          refine bnd hf (fun x9 h9 hf => ?_)
          refine ifo hf (fun hz hf => ?_)
          refine z_callXVq (As := []) (st := []) (pc := 87) X Y (c_f_Reader_readNumber h9) rfl w_688 w_690 w_18 w_41 w_691 hdV_X4_readNumber (Rc.s rfl ce_24) (by omega) hz (Nat.le_of_ble_eq_true rfl) dX4_readUnit_87 rfl ?_
          exact z_aret (pc := 90) X hr hf dX4_readUnit_90
        · refine r_aload_n (x := some 24) (pc := 78) X dX4_readUnit_78 0 rfl ?_
          refine r_iload_n (pc := 79) X dX4_readUnit_79 1 rfl ?_
          refine bnd hf (fun x10 h10 hf => ?_)
          refine ifo hf (fun hz hf => ?_)
          refine z_callXVq (As := [.int p1]) (st := []) (pc := 80) X Y (hR.2.2.1 h10) rfl w_679 w_681 w_16 w_41 w_682 hdV_X4_readAggregate (Rc.s rfl ce_24) (by omega) hz (Nat.le_of_ble_eq_true rfl) dX4_readUnit_80 rfl ?_
          refine r_goto (tgt := 90) (pc := 83) X dX4_readUnit_83 (by decide) ?_
          exact z_aret (pc := 90) X hr hf dX4_readUnit_90
  · refine r_aconst_null (pc := 6) X dX4_readUnit_6 ?_
    exact z_aret (pc := 7) X hr hf dX4_readUnit_7
/-! f_Reader_readField -/
theorem dX4_readField_0 : decode cX4_readField 0 = .ok (.aload_n 0, 1) := by decide +kernel
theorem dX4_readField_1 : decode cX4_readField 1 = .ok (.invokevirtual 38, 3) := by decide +kernel
theorem dX4_readField_4 : decode cX4_readField 4 = .ok (.istore_n 1, 1) := by decide +kernel
theorem dX4_readField_5 : decode cX4_readField 5 = .ok (.iload_n 1, 1) := by decide +kernel
theorem dX4_readField_6 : decode cX4_readField 6 = .ok (.invokestatic 74, 3) := by decide +kernel
theorem dX4_readField_9 : decode cX4_readField 9 = .ok (.ifCond .ne 5, 3) := by decide +kernel
theorem dX4_readField_12 : decode cX4_readField 12 = .ok (.aconst_null, 1) := by decide +kernel
theorem dX4_readField_13 : decode cX4_readField 13 = .ok (.areturn, 1) := by decide +kernel
theorem dX4_readField_14 : decode cX4_readField 14 = .ok (.aload_n 0, 1) := by decide +kernel
theorem dX4_readField_15 : decode cX4_readField 15 = .ok (.dup, 1) := by decide +kernel
theorem dX4_readField_16 : decode cX4_readField 16 = .ok (.getfield 19, 3) := by decide +kernel
theorem dX4_readField_19 : decode cX4_readField 19 = .ok (.iconst 1, 1) := by decide +kernel
theorem dX4_readField_20 : decode cX4_readField 20 = .ok (.iadd, 1) := by decide +kernel
theorem dX4_readField_21 : decode cX4_readField 21 = .ok (.putfield 19, 3) := by decide +kernel
theorem dX4_readField_24 : decode cX4_readField 24 = .ok (.new 33, 3) := by decide +kernel
theorem dX4_readField_27 : decode cX4_readField 27 = .ok (.dup, 1) := by decide +kernel
theorem dX4_readField_28 : decode cX4_readField 28 = .ok (.iload_n 1, 1) := by decide +kernel
theorem dX4_readField_29 : decode cX4_readField 29 = .ok (.iconst 0, 1) := by decide +kernel
theorem dX4_readField_30 : decode cX4_readField 30 = .ok (.aconst_null, 1) := by decide +kernel
theorem dX4_readField_31 : decode cX4_readField 31 = .ok (.aconst_null, 1) := by decide +kernel
theorem dX4_readField_32 : decode cX4_readField 32 = .ok (.invokespecial 35, 3) := by decide +kernel
theorem dX4_readField_35 : decode cX4_readField 35 = .ok (.areturn, 1) := by decide +kernel
def f_Reader_readField (F Z : Nat) (s : St)  : Option (Option Nat × St) :=
  (f_Reader_here F s).bind fun x1 => ((f_P_isField F x1.2 x1.1).bind fun x2 => (if x2.1 = 0 then
    (some (none, x2.2))
  else
    (lt (sI x2.2 1538 ((gI x2.2 1538) + 1)) fun s3 => (if sz s3 < Z then (lt (sN s3 (.inl (3, fun _ => 0, fun _ => none, fun _ => 0))) fun s4 => ((dgo s4 (some (sz s3)) 3).bind fun _ => ((f_Node_init F s4 (some (sz s3)) x1.1 0 none none).bind fun x5 => (some ((some (sz s3)), x5))))) else none))))
set_option maxHeartbeats 1000000 in
theorem c_f_Reader_readField {F Z : Nat} {s : St}  {r : Option Nat} {s' : St} (hf : f_Reader_readField F Z s  = some (r, s')) : CX true yX4_readField (Cond.code yX4_readField cX4_readField 2 (some (.object "Pagerloom$Node"))) (2) (36) (Z - sz s) (12 * (Z - sz s)) (fun B => [.ref (B + 24)]) s (fun B => .inl (some (rfB B r))) s' (sz s' - sz s) (12 * (sz s' - sz s)) := by
  refine CX.ofZ (fun B => [(0, .ref (B + 24))]) (by decide +kernel) (fun _ => rfl) (fun _ => (by simp [lg_sl, rfB_cat, catI, catL, catR])) (fun Γ D B X Y hr => ?_)
  have X : Cx Γ RX4 cX4_readField 2 D B (RM Γ B Z (2) (36)) := X
  unfold f_Reader_readField at hf
  refine r_aload_n (x := some 24) (pc := 0) X dX4_readField_0 0 rfl ?_
  refine bnd hf (fun x1 h1 hf => ?_)
  refine z_callVi (As := []) (st := []) (pc := 1) X (c_f_Reader_here h1) rfl w_644 w_646 w_14 w_41 w_647 hdV_X4_here (Rc.s rfl ce_24) (by decide) (Nat.le_of_ble_eq_true rfl) dX4_readField_1 rfl ?_
  refine r_istore_n (pc := 4) (lv' := [(0, .ref (B + 24)), (1, .int x1.1)]) X dX4_readField_4 (by decide) [1, 0] rfl ?_
  refine r_iload_n (pc := 5) X dX4_readField_5 1 rfl ?_
  refine bnd hf (fun x2 h2 hf => ?_)
  refine z_callSNi (As := [.int x1.1]) (st := []) (pc := 6) X (c_f_P_isField h2) rfl wn_687 w_553 w_36 w_554 hdS_X10_isField (by decide) (Nat.le_of_ble_eq_true rfl) dX4_readField_6 rfl ?_
  refine b_if_ne (tgt := 14) (pc := 9) X dX4_readField_9 (by decide) hf (fun hf => ?_) (fun hf => ?_)
  · refine r_aconst_null (pc := 12) X dX4_readField_12 ?_
    exact z_aret (pc := 13) X hr hf dX4_readField_13
  · refine r_aload_n (x := some 24) (pc := 14) X dX4_readField_14 0 rfl ?_
    refine r_dup (pc := 15) X dX4_readField_15 rfl ?_
    refine r_get (j := 2) (pc := 16) X ce_24 rfl inT4 (by decide) w_188 rfl dX4_readField_16 ?_
    refine r_iconst (v := 1) (pc := 19) X dX4_readField_19 (by decide) ?_
    refine r_iadd (pc := 20) X dX4_readField_20 ?_
    refine z_put (j := 2) (pc := 21) X ce_24 rfl inT4 tyX4 tyX4_ok nmX4 (by decide) w_188 rfl (tyX4_ok 2 (by decide)) rfl rfl (Nat.le_of_ble_eq_true rfl) (cp_1538 _) rfl rfl dX4_readField_21 hf (fun s3 hf => ?_)
    refine z_new (pc := 24) X rfl inT3 tyX3 tyX3_ok w_651 w_652 w_46 rfl hdv3 (by decide) dX4_readField_24 hf (fun s4 hf => ?_)
    refine r_dup (pc := 27) X dX4_readField_27 rfl ?_
    refine r_iload_n (pc := 28) X dX4_readField_28 1 rfl ?_
    refine r_iconst (v := 0) (pc := 29) X dX4_readField_29 (by decide) ?_
    refine r_aconst_null (pc := 30) X dX4_readField_30 ?_
    refine r_aconst_null (pc := 31) X dX4_readField_31 ?_
    refine b_recv (w := true) (B := B) (D := D) rfl hf (fun a hx hrc hf => ?_)
    refine bnd hf (fun x5 h5 hf => ?_)
    refine z_callI (As := [.int x1.1, .int 0, rfB B none, rfB B none]) (st := [rfB B (some (sz s3))]) (pc := 32) X (c_f_Node_init h5) (by rw [hx]; rfl) w_653 w_654 w_46 w_655 rfl hdS_X3_init (by decide) (Nat.le_of_ble_eq_true rfl) dX4_readField_32 (by rw [hx]; rfl) ?_
    exact z_aret (pc := 35) X hr hf dX4_readField_35
/-! f_Reader_readAggregate -/
theorem dX4_readAggregate_0 : decode cX4_readAggregate 0 = .ok (.aload_n 0, 1) := by decide +kernel
theorem dX4_readAggregate_1 : decode cX4_readAggregate 1 = .ok (.invokevirtual 38, 3) := by decide +kernel
theorem dX4_readAggregate_4 : decode cX4_readAggregate 4 = .ok (.istore_n 2, 1) := by decide +kernel
theorem dX4_readAggregate_5 : decode cX4_readAggregate 5 = .ok (.aload_n 0, 1) := by decide +kernel
theorem dX4_readAggregate_6 : decode cX4_readAggregate 6 = .ok (.dup, 1) := by decide +kernel
theorem dX4_readAggregate_7 : decode cX4_readAggregate 7 = .ok (.getfield 19, 3) := by decide +kernel
theorem dX4_readAggregate_10 : decode cX4_readAggregate 10 = .ok (.iconst 1, 1) := by decide +kernel
theorem dX4_readAggregate_11 : decode cX4_readAggregate 11 = .ok (.iadd, 1) := by decide +kernel
theorem dX4_readAggregate_12 : decode cX4_readAggregate 12 = .ok (.putfield 19, 3) := by decide +kernel
theorem dX4_readAggregate_15 : decode cX4_readAggregate 15 = .ok (.aload_n 0, 1) := by decide +kernel
theorem dX4_readAggregate_16 : decode cX4_readAggregate 16 = .ok (.invokevirtual 38, 3) := by decide +kernel
theorem dX4_readAggregate_19 : decode cX4_readAggregate 19 = .ok (.bipush 40, 2) := by decide +kernel
theorem dX4_readAggregate_21 : decode cX4_readAggregate 21 = .ok (.if_icmp .eq 5, 3) := by decide +kernel
theorem dX4_readAggregate_24 : decode cX4_readAggregate 24 = .ok (.aconst_null, 1) := by decide +kernel
theorem dX4_readAggregate_25 : decode cX4_readAggregate 25 = .ok (.areturn, 1) := by decide +kernel
theorem dX4_readAggregate_26 : decode cX4_readAggregate 26 = .ok (.aload_n 0, 1) := by decide +kernel
theorem dX4_readAggregate_27 : decode cX4_readAggregate 27 = .ok (.dup, 1) := by decide +kernel
theorem dX4_readAggregate_28 : decode cX4_readAggregate 28 = .ok (.getfield 19, 3) := by decide +kernel
theorem dX4_readAggregate_31 : decode cX4_readAggregate 31 = .ok (.iconst 1, 1) := by decide +kernel
theorem dX4_readAggregate_32 : decode cX4_readAggregate 32 = .ok (.iadd, 1) := by decide +kernel
theorem dX4_readAggregate_33 : decode cX4_readAggregate 33 = .ok (.putfield 19, 3) := by decide +kernel
theorem dX4_readAggregate_36 : decode cX4_readAggregate 36 = .ok (.aconst_null, 1) := by decide +kernel
theorem dX4_readAggregate_37 : decode cX4_readAggregate 37 = .ok (.astore_n 3, 1) := by decide +kernel
theorem dX4_readAggregate_38 : decode cX4_readAggregate 38 = .ok (.iload_n 2, 1) := by decide +kernel
theorem dX4_readAggregate_39 : decode cX4_readAggregate 39 = .ok (.bipush 110, 2) := by decide +kernel
theorem dX4_readAggregate_41 : decode cX4_readAggregate 41 = .ok (.if_icmp .eq 14, 3) := by decide +kernel
theorem dX4_readAggregate_44 : decode cX4_readAggregate 44 = .ok (.aload_n 0, 1) := by decide +kernel
theorem dX4_readAggregate_45 : decode cX4_readAggregate 45 = .ok (.invokevirtual 68, 3) := by decide +kernel
theorem dX4_readAggregate_48 : decode cX4_readAggregate 48 = .ok (.astore_n 3, 1) := by decide +kernel
theorem dX4_readAggregate_49 : decode cX4_readAggregate 49 = .ok (.aload_n 3, 1) := by decide +kernel
theorem dX4_readAggregate_50 : decode cX4_readAggregate 50 = .ok (.ifnonnull 5, 3) := by decide +kernel
theorem dX4_readAggregate_53 : decode cX4_readAggregate 53 = .ok (.aconst_null, 1) := by decide +kernel
theorem dX4_readAggregate_54 : decode cX4_readAggregate 54 = .ok (.areturn, 1) := by decide +kernel
theorem dX4_readAggregate_55 : decode cX4_readAggregate 55 = .ok (.aconst_null, 1) := by decide +kernel
theorem dX4_readAggregate_56 : decode cX4_readAggregate 56 = .ok (.astore 4, 2) := by decide +kernel
theorem dX4_readAggregate_58 : decode cX4_readAggregate 58 = .ok (.aload_n 0, 1) := by decide +kernel
theorem dX4_readAggregate_59 : decode cX4_readAggregate 59 = .ok (.invokevirtual 38, 3) := by decide +kernel
theorem dX4_readAggregate_62 : decode cX4_readAggregate 62 = .ok (.bipush 58, 2) := by decide +kernel
theorem dX4_readAggregate_64 : decode cX4_readAggregate 64 = .ok (.if_icmp .ne 30, 3) := by decide +kernel
theorem dX4_readAggregate_67 : decode cX4_readAggregate 67 = .ok (.aload_n 0, 1) := by decide +kernel
theorem dX4_readAggregate_68 : decode cX4_readAggregate 68 = .ok (.dup, 1) := by decide +kernel
theorem dX4_readAggregate_69 : decode cX4_readAggregate 69 = .ok (.getfield 19, 3) := by decide +kernel
theorem dX4_readAggregate_72 : decode cX4_readAggregate 72 = .ok (.iconst 1, 1) := by decide +kernel
theorem dX4_readAggregate_73 : decode cX4_readAggregate 73 = .ok (.iadd, 1) := by decide +kernel
theorem dX4_readAggregate_74 : decode cX4_readAggregate 74 = .ok (.putfield 19, 3) := by decide +kernel
theorem dX4_readAggregate_77 : decode cX4_readAggregate 77 = .ok (.aload_n 0, 1) := by decide +kernel
theorem dX4_readAggregate_78 : decode cX4_readAggregate 78 = .ok (.iconst 3, 1) := by decide +kernel
theorem dX4_readAggregate_79 : decode cX4_readAggregate 79 = .ok (.iload_n 1, 1) := by decide +kernel
theorem dX4_readAggregate_80 : decode cX4_readAggregate 80 = .ok (.iconst 1, 1) := by decide +kernel
theorem dX4_readAggregate_81 : decode cX4_readAggregate 81 = .ok (.iadd, 1) := by decide +kernel
theorem dX4_readAggregate_82 : decode cX4_readAggregate 82 = .ok (.invokevirtual 22, 3) := by decide +kernel
theorem dX4_readAggregate_85 : decode cX4_readAggregate 85 = .ok (.astore 4, 2) := by decide +kernel
theorem dX4_readAggregate_87 : decode cX4_readAggregate 87 = .ok (.aload 4, 2) := by decide +kernel
theorem dX4_readAggregate_89 : decode cX4_readAggregate 89 = .ok (.ifnonnull 5, 3) := by decide +kernel
theorem dX4_readAggregate_92 : decode cX4_readAggregate 92 = .ok (.aconst_null, 1) := by decide +kernel
theorem dX4_readAggregate_93 : decode cX4_readAggregate 93 = .ok (.areturn, 1) := by decide +kernel
theorem dX4_readAggregate_94 : decode cX4_readAggregate 94 = .ok (.aload_n 0, 1) := by decide +kernel
theorem dX4_readAggregate_95 : decode cX4_readAggregate 95 = .ok (.new 33, 3) := by decide +kernel
theorem dX4_readAggregate_98 : decode cX4_readAggregate 98 = .ok (.dup, 1) := by decide +kernel
theorem dX4_readAggregate_99 : decode cX4_readAggregate 99 = .ok (.iload_n 2, 1) := by decide +kernel
theorem dX4_readAggregate_100 : decode cX4_readAggregate 100 = .ok (.iconst 0, 1) := by decide +kernel
theorem dX4_readAggregate_101 : decode cX4_readAggregate 101 = .ok (.aload_n 3, 1) := by decide +kernel
theorem dX4_readAggregate_102 : decode cX4_readAggregate 102 = .ok (.aload 4, 2) := by decide +kernel
theorem dX4_readAggregate_104 : decode cX4_readAggregate 104 = .ok (.invokespecial 35, 3) := by decide +kernel
theorem dX4_readAggregate_107 : decode cX4_readAggregate 107 = .ok (.invokevirtual 54, 3) := by decide +kernel
theorem dX4_readAggregate_110 : decode cX4_readAggregate 110 = .ok (.areturn, 1) := by decide +kernel
def f_Reader_readAggregate_b55 (R : Nat → St → Int32 → Int32 → Option (Option Nat × St)) (F Z : Nat) (s : St) (l1 : Int32) (l2 : Int32) (l3 : Option Nat) : Option (Option Nat × St) :=
  (f_Reader_here F s).bind fun x5 => (if x5.1 = 58 then
    (lt (sI x5.2 1538 ((gI x5.2 1538) + 1)) fun s6 => ((R 0 s6 3 (l1 + 1)).bind fun x7 => (if sz x7.2 ≤ Z then (if x7.1 = none then
      (some (none, x7.2))
    else
      (if sz x7.2 < Z then (lt (sN x7.2 (.inl (3, fun _ => 0, fun _ => none, fun _ => 0))) fun s8 => ((dgo s8 (some (sz x7.2)) 3).bind fun _ => ((f_Node_init F s8 (some (sz x7.2)) l2 0 l3 x7.1).bind fun x9 => ((f_Reader_closed F x9 (some (sz x7.2))).bind fun x10 => (some (x10.1, x10.2)))))) else none)) else none)))
  else
    (if sz x5.2 < Z then (lt (sN x5.2 (.inl (3, fun _ => 0, fun _ => none, fun _ => 0))) fun s11 => ((dgo s11 (some (sz x5.2)) 3).bind fun _ => ((f_Node_init F s11 (some (sz x5.2)) l2 0 l3 none).bind fun x12 => ((f_Reader_closed F x12 (some (sz x5.2))).bind fun x13 => (some (x13.1, x13.2)))))) else none))
def f_Reader_readAggregate (R : Nat → St → Int32 → Int32 → Option (Option Nat × St)) (F Z : Nat) (s : St) (p1 : Int32) : Option (Option Nat × St) :=
  (f_Reader_here F s).bind fun x1 => (lt (sI x1.2 1538 ((gI x1.2 1538) + 1)) fun s2 => ((f_Reader_here F s2).bind fun x3 => (if x3.1 = 40 then
    (lt (sI x3.2 1538 ((gI x3.2 1538) + 1)) fun s4 => (if x1.1 = 110 then
      (f_Reader_readAggregate_b55 R F Z s4 p1 x1.1 none)
    else
      ((f_Reader_readField F Z s4).bind fun x14 => (if sz x14.2 ≤ Z then (if x14.1 = none then
        (some (none, x14.2))
      else
        (f_Reader_readAggregate_b55 R F Z x14.2 p1 x1.1 x14.1)) else none))))
  else
    (some (none, x3.2)))))
set_option maxHeartbeats 1000000 in
theorem c_f_Reader_readAggregate_b55 {R : Nat → St → Int32 → Int32 → Option (Option Nat × St)} {fr lo : Nat} {F Z : Nat} {Γ : Ga} {D : DD} {B : Nat} {r : Option Nat} {s' : St} (hR : HRD R Z fr lo) (X : Cx Γ RX4 cX4_readAggregate 5 D B (RM Γ B Z (fr + 4) (lo + 82))) (Y : Xx Γ B) (hr : (Gme Γ).sig.returnType = (some (.object "Pagerloom$Node"))) {s : St} {l1 : Int32} {l2 : Int32} {l3 : Option Nat} (hf : f_Reader_readAggregate_b55 R F Z s l1 l2 l3 = some (r, s')) : V Γ D B true 5 (QX Γ D B true s' (.inl (some (rfB B r))) (RZ Γ B (sz s')) (12 * RZ Γ B (sz s'))) (kz Γ B Z s) (12 * kz Γ B Z s) s 55 [(0, .ref (B + 24)), (1, .int l1), (2, .int l2), (3, rfB B l3)] [] := by
  unfold f_Reader_readAggregate_b55 at hf
  refine r_aconst_null (pc := 55) X dX4_readAggregate_55 ?_
  refine r_astore (pc := 56) (lv' := [(0, .ref (B + 24)), (1, .int l1), (2, .int l2), (3, rfB B l3), (4, rfB B none)]) X dX4_readAggregate_56 (by decide) [1, 2, 3, 4, 0] (by simp [lv_pick, rfB_cat, catI, catL, catR]) ?_
  refine r_aload_n (x := some 24) (pc := 58) X dX4_readAggregate_58 0 rfl ?_
  refine bnd hf (fun x5 h5 hf => ?_)
  refine z_callVi (As := []) (st := []) (pc := 59) X (c_f_Reader_here h5) rfl w_644 w_646 w_14 w_41 w_647 hdV_X4_here (Rc.s rfl ce_24) (by omega) (Nat.le_of_ble_eq_true rfl) dX4_readAggregate_59 rfl ?_
  refine r_bipush (v := 58) (pc := 62) X dX4_readAggregate_62 (by decide) ?_
  refine b_icmp_ne (tgt := 94) (pc := 64) X dX4_readAggregate_64 (by decide) hf (fun hf => ?_) (fun hf => ?_)
  · refine r_aload_n (x := some 24) (pc := 67) X dX4_readAggregate_67 0 rfl ?_
    refine r_dup (pc := 68) X dX4_readAggregate_68 rfl ?_
    refine r_get (j := 2) (pc := 69) X ce_24 rfl inT4 (by decide) w_188 rfl dX4_readAggregate_69 ?_
    refine r_iconst (v := 1) (pc := 72) X dX4_readAggregate_72 (by decide) ?_
    refine r_iadd (pc := 73) X dX4_readAggregate_73 ?_
    refine z_put (j := 2) (pc := 74) X ce_24 rfl inT4 tyX4 tyX4_ok nmX4 (by decide) w_188 rfl (tyX4_ok 2 (by decide)) rfl rfl (Nat.le_of_ble_eq_true rfl) (cp_1538 _) rfl rfl dX4_readAggregate_74 hf (fun s6 hf => ?_)
    refine r_aload_n (x := some 24) (pc := 77) X dX4_readAggregate_77 0 rfl ?_
    refine r_iconst (v := 3) (pc := 78) X dX4_readAggregate_78 (by decide) ?_
    refine r_iload_n (pc := 79) X dX4_readAggregate_79 1 rfl ?_
    refine r_iconst (v := 1) (pc := 80) X dX4_readAggregate_80 (by decide) ?_
    refine r_iadd (pc := 81) X dX4_readAggregate_81 ?_
    refine bnd hf (fun x7 h7 hf => ?_)
    refine ifo hf (fun hz hf => ?_)
    refine z_callXVq (As := [.int 3, .int (l1 + 1)]) (st := []) (pc := 82) X Y (hR.1 h7) rfl w_636 w_638 w_12 w_41 w_639 hdV_X4_readChain (Rc.s rfl ce_24) (by omega) hz (Nat.le_of_ble_eq_true rfl) dX4_readAggregate_82 rfl ?_
    refine r_astore (pc := 85) (lv' := [(0, .ref (B + 24)), (2, .int l2), (3, rfB B l3), (4, rfB B x7.1)]) X dX4_readAggregate_85 (by decide) [1, 3, 4, 0] (by simp [lv_pick, rfB_cat, catI, catL, catR]) ?_
    refine r_aload (pc := 87) X dX4_readAggregate_87 3 rfl ?_
    refine b_ifnonnull (tgt := 94) (pc := 89) X dX4_readAggregate_89 (by decide) hf (fun hf => ?_) (fun hf => ?_)
    · refine r_aconst_null (pc := 92) X dX4_readAggregate_92 ?_
      exact z_aret (pc := 93) X hr hf dX4_readAggregate_93
    · refine r_aload_n (x := some 24) (pc := 94) X dX4_readAggregate_94 0 rfl ?_
      refine z_new (pc := 95) X rfl inT3 tyX3 tyX3_ok w_651 w_652 w_46 rfl hdv3 (by decide) dX4_readAggregate_95 hf (fun s8 hf => ?_)
      refine r_dup (pc := 98) X dX4_readAggregate_98 rfl ?_
      refine r_iload_n (pc := 99) X dX4_readAggregate_99 1 rfl ?_
      refine r_iconst (v := 0) (pc := 100) X dX4_readAggregate_100 (by decide) ?_
      refine r_aload_n (pc := 101) X dX4_readAggregate_101 2 rfl ?_
      refine r_aload (pc := 102) X dX4_readAggregate_102 3 rfl ?_
      refine b_recv (w := true) (B := B) (D := D) rfl hf (fun a hx hrc hf => ?_)
      refine bnd hf (fun x9 h9 hf => ?_)
      refine z_callI (As := [.int l2, .int 0, rfB B l3, rfB B x7.1]) (st := [rfB B (some (sz x7.2)), .ref (B + 24)]) (pc := 104) X (c_f_Node_init h9) (by rw [hx]; rfl) w_653 w_654 w_46 w_655 rfl hdS_X3_init (by omega) (Nat.le_of_ble_eq_true rfl) dX4_readAggregate_104 (by rw [hx]; rfl) ?_
      refine bnd hf (fun x10 h10 hf => ?_)
      refine z_callVq (As := [rfB B (some (sz x7.2))]) (st := []) (pc := 107) X (c_f_Reader_closed h10) rfl w_674 w_676 w_15 w_41 w_677 hdV_X4_closed (Rc.s rfl ce_24) (by omega) (Nat.le_of_ble_eq_true rfl) dX4_readAggregate_107 rfl ?_
      exact z_aret (pc := 110) X hr hf dX4_readAggregate_110
  · refine r_aload_n (x := some 24) (pc := 94) X dX4_readAggregate_94 0 rfl ?_
    refine z_new (pc := 95) X rfl inT3 tyX3 tyX3_ok w_651 w_652 w_46 rfl hdv3 (by decide) dX4_readAggregate_95 hf (fun s11 hf => ?_)
    refine r_dup (pc := 98) X dX4_readAggregate_98 rfl ?_
    refine r_iload_n (pc := 99) X dX4_readAggregate_99 2 rfl ?_
    refine r_iconst (v := 0) (pc := 100) X dX4_readAggregate_100 (by decide) ?_
    refine r_aload_n (pc := 101) X dX4_readAggregate_101 3 rfl ?_
    refine r_aload (pc := 102) X dX4_readAggregate_102 4 rfl ?_
    refine b_recv (w := true) (B := B) (D := D) rfl hf (fun a hx hrc hf => ?_)
    refine bnd hf (fun x12 h12 hf => ?_)
    refine z_callI (As := [.int l2, .int 0, rfB B l3, rfB B none]) (st := [rfB B (some (sz x5.2)), .ref (B + 24)]) (pc := 104) X (c_f_Node_init h12) (by rw [hx]; rfl) w_653 w_654 w_46 w_655 rfl hdS_X3_init (by omega) (Nat.le_of_ble_eq_true rfl) dX4_readAggregate_104 (by rw [hx]; rfl) ?_
    refine bnd hf (fun x13 h13 hf => ?_)
    refine z_callVq (As := [rfB B (some (sz x5.2))]) (st := []) (pc := 107) X (c_f_Reader_closed h13) rfl w_674 w_676 w_15 w_41 w_677 hdV_X4_closed (Rc.s rfl ce_24) (by omega) (Nat.le_of_ble_eq_true rfl) dX4_readAggregate_107 rfl ?_
    exact z_aret (pc := 110) X hr hf dX4_readAggregate_110
set_option maxHeartbeats 1000000 in
theorem c_f_Reader_readAggregate {R : Nat → St → Int32 → Int32 → Option (Option Nat × St)} {fr lo : Nat} {F Z : Nat} {s : St} {p1 : Int32} {r : Option Nat} {s' : St} (hR : HRD R Z fr lo) (hf : f_Reader_readAggregate R F Z s p1 = some (r, s')) : CX true yX4_readAggregate (Cond.code yX4_readAggregate cX4_readAggregate 5 (some (.object "Pagerloom$Node"))) (fr + 4) (lo + 82) (Z - sz s) (12 * (Z - sz s)) (fun B => [.ref (B + 24), .int p1]) s (fun B => .inl (some (rfB B r))) s' (sz s' - sz s) (12 * (sz s' - sz s)) := by
  refine CX.ofZ (fun B => [(0, .ref (B + 24)), (1, .int p1)]) (by decide +kernel) (fun _ => rfl) (fun _ => (by simp [lg_sl, rfB_cat, catI, catL, catR])) (fun Γ D B X Y hr => ?_)
  have X : Cx Γ RX4 cX4_readAggregate 5 D B (RM Γ B Z (fr + 4) (lo + 82)) := X
  unfold f_Reader_readAggregate at hf
  refine r_aload_n (x := some 24) (pc := 0) X dX4_readAggregate_0 0 rfl ?_
  refine bnd hf (fun x1 h1 hf => ?_)
  refine z_callVi (As := []) (st := []) (pc := 1) X (c_f_Reader_here h1) rfl w_644 w_646 w_14 w_41 w_647 hdV_X4_here (Rc.s rfl ce_24) (by omega) (Nat.le_of_ble_eq_true rfl) dX4_readAggregate_1 rfl ?_
  refine r_istore_n (pc := 4) (lv' := [(0, .ref (B + 24)), (1, .int p1), (2, .int x1.1)]) X dX4_readAggregate_4 (by decide) [1, 2, 0] rfl ?_
  refine r_aload_n (x := some 24) (pc := 5) X dX4_readAggregate_5 0 rfl ?_
  refine r_dup (pc := 6) X dX4_readAggregate_6 rfl ?_
  refine r_get (j := 2) (pc := 7) X ce_24 rfl inT4 (by decide) w_188 rfl dX4_readAggregate_7 ?_
  refine r_iconst (v := 1) (pc := 10) X dX4_readAggregate_10 (by decide) ?_
  refine r_iadd (pc := 11) X dX4_readAggregate_11 ?_
  refine z_put (j := 2) (pc := 12) X ce_24 rfl inT4 tyX4 tyX4_ok nmX4 (by decide) w_188 rfl (tyX4_ok 2 (by decide)) rfl rfl (Nat.le_of_ble_eq_true rfl) (cp_1538 _) rfl rfl dX4_readAggregate_12 hf (fun s2 hf => ?_)
  refine r_aload_n (x := some 24) (pc := 15) X dX4_readAggregate_15 0 rfl ?_
  refine bnd hf (fun x3 h3 hf => ?_)
  refine z_callVi (As := []) (st := []) (pc := 16) X (c_f_Reader_here h3) rfl w_644 w_646 w_14 w_41 w_647 hdV_X4_here (Rc.s rfl ce_24) (by omega) (Nat.le_of_ble_eq_true rfl) dX4_readAggregate_16 rfl ?_
  refine r_bipush (v := 40) (pc := 19) X dX4_readAggregate_19 (by decide) ?_
  refine b_icmp_eq (tgt := 26) (pc := 21) X dX4_readAggregate_21 (by decide) hf (fun hf => ?_) (fun hf => ?_)
  · refine r_aload_n (x := some 24) (pc := 26) X dX4_readAggregate_26 0 rfl ?_
    refine r_dup (pc := 27) X dX4_readAggregate_27 rfl ?_
    refine r_get (j := 2) (pc := 28) X ce_24 rfl inT4 (by decide) w_188 rfl dX4_readAggregate_28 ?_
    refine r_iconst (v := 1) (pc := 31) X dX4_readAggregate_31 (by decide) ?_
    refine r_iadd (pc := 32) X dX4_readAggregate_32 ?_
    refine z_put (j := 2) (pc := 33) X ce_24 rfl inT4 tyX4 tyX4_ok nmX4 (by decide) w_188 rfl (tyX4_ok 2 (by decide)) rfl rfl (Nat.le_of_ble_eq_true rfl) (cp_1538 _) rfl rfl dX4_readAggregate_33 hf (fun s4 hf => ?_)
    refine r_aconst_null (pc := 36) X dX4_readAggregate_36 ?_
    refine r_astore_n (pc := 37) (lv' := [(0, .ref (B + 24)), (1, .int p1), (2, .int x1.1), (3, rfB B none)]) X dX4_readAggregate_37 (by decide) [1, 2, 3, 0] rfl ?_
    refine r_iload_n (pc := 38) X dX4_readAggregate_38 2 rfl ?_
    refine r_bipush (v := 110) (pc := 39) X dX4_readAggregate_39 (by decide) ?_
    refine b_icmp_eq (tgt := 55) (pc := 41) X dX4_readAggregate_41 (by decide) hf (fun hf => ?_) (fun hf => ?_)
    · exact c_f_Reader_readAggregate_b55 hR X Y hr hf
    · refine r_aload_n (x := some 24) (pc := 44) X dX4_readAggregate_44 0 rfl ?_
      refine bnd hf (fun x14 h14 hf => ?_)
      refine ifo hf (fun hz hf => ?_)
      refine z_callXVq (As := []) (st := []) (pc := 45) X Y (c_f_Reader_readField h14) rfl w_683 w_685 w_17 w_41 w_686 hdV_X4_readField (Rc.s rfl ce_24) (by omega) hz (Nat.le_of_ble_eq_true rfl) dX4_readAggregate_45 rfl ?_
      refine r_astore_n (pc := 48) (lv' := [(0, .ref (B + 24)), (1, .int p1), (2, .int x1.1), (3, rfB B x14.1)]) X dX4_readAggregate_48 (by decide) [1, 2, 3, 0] rfl ?_
      refine r_aload_n (pc := 49) X dX4_readAggregate_49 3 rfl ?_
      refine b_ifnonnull (tgt := 55) (pc := 50) X dX4_readAggregate_50 (by decide) hf (fun hf => ?_) (fun hf => ?_)
      · refine r_aconst_null (pc := 53) X dX4_readAggregate_53 ?_
        exact z_aret (pc := 54) X hr hf dX4_readAggregate_54
      · exact c_f_Reader_readAggregate_b55 hR X Y hr hf
  · refine r_aconst_null (pc := 24) X dX4_readAggregate_24 ?_
    exact z_aret (pc := 25) X hr hf dX4_readAggregate_25
/-! f_Reader_readComparison -/
theorem dX4_readComparison_0 : decode cX4_readComparison 0 = .ok (.aload_n 0, 1) := by decide +kernel
theorem dX4_readComparison_1 : decode cX4_readComparison 1 = .ok (.invokevirtual 68, 3) := by decide +kernel
theorem dX4_readComparison_4 : decode cX4_readComparison 4 = .ok (.astore_n 1, 1) := by decide +kernel
theorem dX4_readComparison_5 : decode cX4_readComparison 5 = .ok (.aload_n 0, 1) := by decide +kernel
theorem dX4_readComparison_6 : decode cX4_readComparison 6 = .ok (.invokevirtual 38, 3) := by decide +kernel
theorem dX4_readComparison_9 : decode cX4_readComparison 9 = .ok (.istore_n 2, 1) := by decide +kernel
theorem dX4_readComparison_10 : decode cX4_readComparison 10 = .ok (.aload_n 1, 1) := by decide +kernel
theorem dX4_readComparison_11 : decode cX4_readComparison 11 = .ok (.ifnull 10, 3) := by decide +kernel
theorem dX4_readComparison_14 : decode cX4_readComparison 14 = .ok (.iload_n 2, 1) := by decide +kernel
theorem dX4_readComparison_15 : decode cX4_readComparison 15 = .ok (.invokestatic 46, 3) := by decide +kernel
theorem dX4_readComparison_18 : decode cX4_readComparison 18 = .ok (.ifCond .ne 5, 3) := by decide +kernel
theorem dX4_readComparison_21 : decode cX4_readComparison 21 = .ok (.aconst_null, 1) := by decide +kernel
theorem dX4_readComparison_22 : decode cX4_readComparison 22 = .ok (.areturn, 1) := by decide +kernel
theorem dX4_readComparison_23 : decode cX4_readComparison 23 = .ok (.aload_n 0, 1) := by decide +kernel
theorem dX4_readComparison_24 : decode cX4_readComparison 24 = .ok (.dup, 1) := by decide +kernel
theorem dX4_readComparison_25 : decode cX4_readComparison 25 = .ok (.getfield 19, 3) := by decide +kernel
theorem dX4_readComparison_28 : decode cX4_readComparison 28 = .ok (.iconst 1, 1) := by decide +kernel
theorem dX4_readComparison_29 : decode cX4_readComparison 29 = .ok (.iadd, 1) := by decide +kernel
theorem dX4_readComparison_30 : decode cX4_readComparison 30 = .ok (.putfield 19, 3) := by decide +kernel
theorem dX4_readComparison_33 : decode cX4_readComparison 33 = .ok (.aload_n 0, 1) := by decide +kernel
theorem dX4_readComparison_34 : decode cX4_readComparison 34 = .ok (.invokevirtual 38, 3) := by decide +kernel
theorem dX4_readComparison_37 : decode cX4_readComparison 37 = .ok (.bipush 45, 2) := by decide +kernel
theorem dX4_readComparison_39 : decode cX4_readComparison 39 = .ok (.if_icmp .ne 7, 3) := by decide +kernel
theorem dX4_readComparison_42 : decode cX4_readComparison 42 = .ok (.iconst 1, 1) := by decide +kernel
theorem dX4_readComparison_43 : decode cX4_readComparison 43 = .ok (.goto 4, 3) := by decide +kernel
theorem dX4_readComparison_46 : decode cX4_readComparison 46 = .ok (.iconst 0, 1) := by decide +kernel
theorem dX4_readComparison_47 : decode cX4_readComparison 47 = .ok (.istore_n 3, 1) := by decide +kernel
theorem dX4_readComparison_48 : decode cX4_readComparison 48 = .ok (.iload_n 3, 1) := by decide +kernel
theorem dX4_readComparison_49 : decode cX4_readComparison 49 = .ok (.ifCond .eq 13, 3) := by decide +kernel
theorem dX4_readComparison_52 : decode cX4_readComparison 52 = .ok (.aload_n 0, 1) := by decide +kernel
theorem dX4_readComparison_53 : decode cX4_readComparison 53 = .ok (.dup, 1) := by decide +kernel
theorem dX4_readComparison_54 : decode cX4_readComparison 54 = .ok (.getfield 19, 3) := by decide +kernel
theorem dX4_readComparison_57 : decode cX4_readComparison 57 = .ok (.iconst 1, 1) := by decide +kernel
theorem dX4_readComparison_58 : decode cX4_readComparison 58 = .ok (.iadd, 1) := by decide +kernel
theorem dX4_readComparison_59 : decode cX4_readComparison 59 = .ok (.putfield 19, 3) := by decide +kernel
theorem dX4_readComparison_62 : decode cX4_readComparison 62 = .ok (.aload_n 0, 1) := by decide +kernel
theorem dX4_readComparison_63 : decode cX4_readComparison 63 = .ok (.invokevirtual 64, 3) := by decide +kernel
theorem dX4_readComparison_66 : decode cX4_readComparison 66 = .ok (.astore 4, 2) := by decide +kernel
theorem dX4_readComparison_68 : decode cX4_readComparison 68 = .ok (.aload 4, 2) := by decide +kernel
theorem dX4_readComparison_70 : decode cX4_readComparison 70 = .ok (.ifnonnull 5, 3) := by decide +kernel
theorem dX4_readComparison_73 : decode cX4_readComparison 73 = .ok (.aconst_null, 1) := by decide +kernel
theorem dX4_readComparison_74 : decode cX4_readComparison 74 = .ok (.areturn, 1) := by decide +kernel
theorem dX4_readComparison_75 : decode cX4_readComparison 75 = .ok (.new 33, 3) := by decide +kernel
theorem dX4_readComparison_78 : decode cX4_readComparison 78 = .ok (.dup, 1) := by decide +kernel
theorem dX4_readComparison_79 : decode cX4_readComparison 79 = .ok (.iload_n 2, 1) := by decide +kernel
theorem dX4_readComparison_80 : decode cX4_readComparison 80 = .ok (.iconst 0, 1) := by decide +kernel
theorem dX4_readComparison_81 : decode cX4_readComparison 81 = .ok (.aload_n 1, 1) := by decide +kernel
theorem dX4_readComparison_82 : decode cX4_readComparison 82 = .ok (.iload_n 3, 1) := by decide +kernel
theorem dX4_readComparison_83 : decode cX4_readComparison 83 = .ok (.ifCond .eq 13, 3) := by decide +kernel
theorem dX4_readComparison_86 : decode cX4_readComparison 86 = .ok (.bipush 126, 2) := by decide +kernel
theorem dX4_readComparison_88 : decode cX4_readComparison 88 = .ok (.aload 4, 2) := by decide +kernel
theorem dX4_readComparison_90 : decode cX4_readComparison 90 = .ok (.invokestatic 50, 3) := by decide +kernel
theorem dX4_readComparison_93 : decode cX4_readComparison 93 = .ok (.goto 5, 3) := by decide +kernel
theorem dX4_readComparison_96 : decode cX4_readComparison 96 = .ok (.aload 4, 2) := by decide +kernel
theorem dX4_readComparison_98 : decode cX4_readComparison 98 = .ok (.invokespecial 35, 3) := by decide +kernel
theorem dX4_readComparison_101 : decode cX4_readComparison 101 = .ok (.areturn, 1) := by decide +kernel
def f_Reader_readComparison_b62 (F Z : Nat) (s : St) (l1 : Option Nat) (l2 : Int32) (l3 : Int32) : Option (Option Nat × St) :=
  (f_Reader_readNumber F Z s).bind fun x6 => (if sz x6.2 ≤ Z then (if x6.1 = none then
    (some (none, x6.2))
  else
    (if sz x6.2 < Z then (lt (sN x6.2 (.inl (3, fun _ => 0, fun _ => none, fun _ => 0))) fun s7 => (if l3 = 0 then
      ((dgo s7 (some (sz x6.2)) 3).bind fun _ => ((f_Node_init F s7 (some (sz x6.2)) l2 0 l1 x6.1).bind fun x8 => (some ((some (sz x6.2)), x8))))
    else
      ((f_Reader_before F Z s7 126 x6.1).bind fun x9 => (if sz x9.2 ≤ Z then ((dgo x9.2 (some (sz x6.2)) 3).bind fun _ => ((f_Node_init F x9.2 (some (sz x6.2)) l2 0 l1 x9.1).bind fun x10 => (some ((some (sz x6.2)), x10)))) else none)))) else none)) else none)
def f_Reader_readComparison (F Z : Nat) (s : St)  : Option (Option Nat × St) :=
  (f_Reader_readField F Z s).bind fun x1 => (if sz x1.2 ≤ Z then ((f_Reader_here F x1.2).bind fun x2 => (if x1.1 = none then
    (some (none, x2.2))
  else
    ((f_P_isComparison F x2.2 x2.1).bind fun x3 => (if x3.1 = 0 then
      (some (none, x3.2))
    else
      (lt (sI x3.2 1538 ((gI x3.2 1538) + 1)) fun s4 => ((f_Reader_here F s4).bind fun x5 => (if x5.1 = 45 then
        (if (1 : Int32) = 0 then
          (f_Reader_readComparison_b62 F Z x5.2 x1.1 x2.1 1)
        else
          (lt (sI x5.2 1538 ((gI x5.2 1538) + 1)) fun s11 => (f_Reader_readComparison_b62 F Z s11 x1.1 x2.1 1)))
      else
        (if (0 : Int32) = 0 then
          (f_Reader_readComparison_b62 F Z x5.2 x1.1 x2.1 0)
        else
          (lt (sI x5.2 1538 ((gI x5.2 1538) + 1)) fun s12 => (f_Reader_readComparison_b62 F Z s12 x1.1 x2.1 0)))))))))) else none)
set_option maxHeartbeats 1000000 in
theorem c_f_Reader_readComparison_b62 {F Z : Nat} {Γ : Ga} {D : DD} {B : Nat} {r : Option Nat} {s' : St} (X : Cx Γ RX4 cX4_readComparison 5 D B (RM Γ B Z (3) (58))) (Y : Xx Γ B) (hr : (Gme Γ).sig.returnType = (some (.object "Pagerloom$Node"))) {s : St} {l1 : Option Nat} {l2 : Int32} {l3 : Int32} (hf : f_Reader_readComparison_b62 F Z s l1 l2 l3 = some (r, s')) : V Γ D B true 5 (QX Γ D B true s' (.inl (some (rfB B r))) (RZ Γ B (sz s')) (12 * RZ Γ B (sz s'))) (kz Γ B Z s) (12 * kz Γ B Z s) s 62 [(0, .ref (B + 24)), (1, rfB B l1), (2, .int l2), (3, .int l3)] [] := by
  unfold f_Reader_readComparison_b62 at hf
  refine r_aload_n (x := some 24) (pc := 62) X dX4_readComparison_62 0 rfl ?_
  refine bnd hf (fun x6 h6 hf => ?_)
  refine ifo hf (fun hz hf => ?_)
  refine z_callXVq (As := []) (st := []) (pc := 63) X Y (c_f_Reader_readNumber h6) rfl w_688 w_690 w_18 w_41 w_691 hdV_X4_readNumber (Rc.s rfl ce_24) (by decide) hz (Nat.le_of_ble_eq_true rfl) dX4_readComparison_63 rfl ?_
  refine r_astore (pc := 66) (lv' := [(1, rfB B l1), (2, .int l2), (3, .int l3), (4, rfB B x6.1)]) X dX4_readComparison_66 (by decide) [2, 3, 4, 0] rfl ?_
  refine r_aload (pc := 68) X dX4_readComparison_68 3 rfl ?_
  refine b_ifnonnull (tgt := 75) (pc := 70) X dX4_readComparison_70 (by decide) hf (fun hf => ?_) (fun hf => ?_)
  · refine r_aconst_null (pc := 73) X dX4_readComparison_73 ?_
    exact z_aret (pc := 74) X hr hf dX4_readComparison_74
  · refine z_new (pc := 75) X rfl inT3 tyX3 tyX3_ok w_651 w_652 w_46 rfl hdv3 (by decide) dX4_readComparison_75 hf (fun s7 hf => ?_)
    refine r_dup (pc := 78) X dX4_readComparison_78 rfl ?_
    refine r_iload_n (pc := 79) X dX4_readComparison_79 1 rfl ?_
    refine r_iconst (v := 0) (pc := 80) X dX4_readComparison_80 (by decide) ?_
    refine r_aload_n (pc := 81) X dX4_readComparison_81 0 rfl ?_
    refine r_iload_n (pc := 82) X dX4_readComparison_82 2 rfl ?_
    refine b_if_eq (tgt := 96) (pc := 83) X dX4_readComparison_83 (by decide) hf (fun hf => ?_) (fun hf => ?_)
    · refine r_aload (pc := 96) X dX4_readComparison_96 3 rfl ?_
      refine b_recv (w := true) (B := B) (D := D) rfl hf (fun a hx hrc hf => ?_)
      refine bnd hf (fun x8 h8 hf => ?_)
      refine z_callI (As := [.int l2, .int 0, rfB B l1, rfB B x6.1]) (st := [rfB B (some (sz x6.2))]) (pc := 98) X (c_f_Node_init h8) (by rw [hx]; rfl) w_653 w_654 w_46 w_655 rfl hdS_X3_init (by decide) (Nat.le_of_ble_eq_true rfl) dX4_readComparison_98 (by rw [hx]; rfl) ?_
      exact z_aret (pc := 101) X hr hf dX4_readComparison_101
    · refine r_bipush (v := 126) (pc := 86) X dX4_readComparison_86 (by decide) ?_
      refine r_aload (pc := 88) X dX4_readComparison_88 3 rfl ?_
      refine bnd hf (fun x9 h9 hf => ?_)
      refine ifo hf (fun hz hf => ?_)
      refine z_callXSq (As := [.int 126, rfB B x6.1]) (st := [rfB B l1, .int 0, .int l2, rfB B (some (sz x6.2)), rfB B (some (sz x6.2))]) (pc := 90) X Y (c_f_Reader_before h9) rfl w_648 w_649 w_41 w_650 hdS_X4_before (by decide) hz (by simp [rfB_cat, catI, catL, catR]) dX4_readComparison_90 rfl ?_
      refine r_goto (tgt := 98) (pc := 93) X dX4_readComparison_93 (by decide) ?_
      refine b_recv (w := true) (B := B) (D := D) rfl hf (fun a hx hrc hf => ?_)
      refine bnd hf (fun x10 h10 hf => ?_)
      refine z_callI (As := [.int l2, .int 0, rfB B l1, rfB B x9.1]) (st := [rfB B (some (sz x6.2))]) (pc := 98) X (c_f_Node_init h10) (by rw [hx]; rfl) w_653 w_654 w_46 w_655 rfl hdS_X3_init (by decide) (Nat.le_of_ble_eq_true rfl) dX4_readComparison_98 (by rw [hx]; rfl) ?_
      exact z_aret (pc := 101) X hr hf dX4_readComparison_101
set_option maxHeartbeats 1000000 in
theorem c_f_Reader_readComparison {F Z : Nat} {s : St}  {r : Option Nat} {s' : St} (hf : f_Reader_readComparison F Z s  = some (r, s')) : CX true yX4_readComparison (Cond.code yX4_readComparison cX4_readComparison 5 (some (.object "Pagerloom$Node"))) (3) (58) (Z - sz s) (12 * (Z - sz s)) (fun B => [.ref (B + 24)]) s (fun B => .inl (some (rfB B r))) s' (sz s' - sz s) (12 * (sz s' - sz s)) := by
  refine CX.ofZ (fun B => [(0, .ref (B + 24))]) (by decide +kernel) (fun _ => rfl) (fun _ => (by simp [lg_sl, rfB_cat, catI, catL, catR])) (fun Γ D B X Y hr => ?_)
  have X : Cx Γ RX4 cX4_readComparison 5 D B (RM Γ B Z (3) (58)) := X
  unfold f_Reader_readComparison at hf
  refine r_aload_n (x := some 24) (pc := 0) X dX4_readComparison_0 0 rfl ?_
  refine bnd hf (fun x1 h1 hf => ?_)
  refine ifo hf (fun hz hf => ?_)
  refine z_callXVq (As := []) (st := []) (pc := 1) X Y (c_f_Reader_readField h1) rfl w_683 w_685 w_17 w_41 w_686 hdV_X4_readField (Rc.s rfl ce_24) (by decide) hz (Nat.le_of_ble_eq_true rfl) dX4_readComparison_1 rfl ?_
  refine r_astore_n (pc := 4) (lv' := [(0, .ref (B + 24)), (1, rfB B x1.1)]) X dX4_readComparison_4 (by decide) [1, 0] rfl ?_
  refine r_aload_n (x := some 24) (pc := 5) X dX4_readComparison_5 0 rfl ?_
  refine bnd hf (fun x2 h2 hf => ?_)
  refine z_callVi (As := []) (st := []) (pc := 6) X (c_f_Reader_here h2) rfl w_644 w_646 w_14 w_41 w_647 hdV_X4_here (Rc.s rfl ce_24) (by decide) (Nat.le_of_ble_eq_true rfl) dX4_readComparison_6 rfl ?_
  refine r_istore_n (pc := 9) (lv' := [(0, .ref (B + 24)), (1, rfB B x1.1), (2, .int x2.1)]) X dX4_readComparison_9 (by decide) [1, 2, 0] (by simp [lv_pick, rfB_cat, catI, catL, catR, show ((2 : Fin 4) : Nat) = 2 from rfl]) ?_
  refine r_aload_n (pc := 10) X dX4_readComparison_10 1 rfl ?_
  refine b_ifnull (tgt := 21) (pc := 11) X dX4_readComparison_11 (by decide) hf (fun hf => ?_) (fun hf => ?_)
  · refine r_aconst_null (pc := 21) X dX4_readComparison_21 ?_
    exact z_aret (pc := 22) X hr hf dX4_readComparison_22
  · refine r_iload_n (pc := 14) X dX4_readComparison_14 2 rfl ?_
    refine bnd hf (fun x3 h3 hf => ?_)
    refine z_callSNi (As := [.int x2.1]) (st := []) (pc := 15) X (c_f_P_isComparison h3) rfl wn_703 w_704 w_36 w_705 hdS_X10_isComparison (by decide) (Nat.le_of_ble_eq_true rfl) dX4_readComparison_15 rfl ?_
    refine b_if_ne (tgt := 23) (pc := 18) X dX4_readComparison_18 (by decide) hf (fun hf => ?_) (fun hf => ?_)
    · refine r_aconst_null (pc := 21) X dX4_readComparison_21 ?_
      exact z_aret (pc := 22) X hr hf dX4_readComparison_22
    · refine r_aload_n (x := some 24) (pc := 23) X dX4_readComparison_23 0 rfl ?_
      refine r_dup (pc := 24) X dX4_readComparison_24 rfl ?_
      refine r_get (j := 2) (pc := 25) X ce_24 rfl inT4 (by decide) w_188 rfl dX4_readComparison_25 ?_
      refine r_iconst (v := 1) (pc := 28) X dX4_readComparison_28 (by decide) ?_
      refine r_iadd (pc := 29) X dX4_readComparison_29 ?_
      refine z_put (j := 2) (pc := 30) X ce_24 rfl inT4 tyX4 tyX4_ok nmX4 (by decide) w_188 rfl (tyX4_ok 2 (by decide)) rfl rfl (Nat.le_of_ble_eq_true rfl) (cp_1538 _) rfl rfl dX4_readComparison_30 hf (fun s4 hf => ?_)
      refine r_aload_n (x := some 24) (pc := 33) X dX4_readComparison_33 0 rfl ?_
      refine bnd hf (fun x5 h5 hf => ?_)
      refine z_callVi (As := []) (st := []) (pc := 34) X (c_f_Reader_here h5) rfl w_644 w_646 w_14 w_41 w_647 hdV_X4_here (Rc.s rfl ce_24) (by decide) (Nat.le_of_ble_eq_true rfl) dX4_readComparison_34 rfl ?_
      refine r_bipush (v := 45) (pc := 37) X dX4_readComparison_37 (by decide) ?_
      refine b_icmp_ne (tgt := 46) (pc := 39) X dX4_readComparison_39 (by decide) hf (fun hf => ?_) (fun hf => ?_)
      · refine r_iconst (v := 1) (pc := 42) X dX4_readComparison_42 (by decide) ?_
        refine r_goto (tgt := 47) (pc := 43) X dX4_readComparison_43 (by decide) ?_
        refine r_istore_n (pc := 47) (lv' := [(0, .ref (B + 24)), (1, rfB B x1.1), (2, .int x2.1), (3, .int 1)]) X dX4_readComparison_47 (by decide) [1, 2, 3, 0] rfl ?_
        refine r_iload_n (pc := 48) X dX4_readComparison_48 3 rfl ?_
        refine b_if_eq (tgt := 62) (pc := 49) X dX4_readComparison_49 (by decide) hf (fun hf => ?_) (fun hf => ?_)
        · exact c_f_Reader_readComparison_b62 X Y hr hf
        · refine r_aload_n (x := some 24) (pc := 52) X dX4_readComparison_52 0 rfl ?_
          refine r_dup (pc := 53) X dX4_readComparison_53 rfl ?_
          refine r_get (j := 2) (pc := 54) X ce_24 rfl inT4 (by decide) w_188 rfl dX4_readComparison_54 ?_
          refine r_iconst (v := 1) (pc := 57) X dX4_readComparison_57 (by decide) ?_
          refine r_iadd (pc := 58) X dX4_readComparison_58 ?_
          refine z_put (j := 2) (pc := 59) X ce_24 rfl inT4 tyX4 tyX4_ok nmX4 (by decide) w_188 rfl (tyX4_ok 2 (by decide)) rfl rfl (Nat.le_of_ble_eq_true rfl) (cp_1538 _) rfl rfl dX4_readComparison_59 hf (fun s11 hf => ?_)
          exact c_f_Reader_readComparison_b62 X Y hr hf
      · refine r_iconst (v := 0) (pc := 46) X dX4_readComparison_46 (by decide) ?_
        refine r_istore_n (pc := 47) (lv' := [(0, .ref (B + 24)), (1, rfB B x1.1), (2, .int x2.1), (3, .int 0)]) X dX4_readComparison_47 (by decide) [1, 2, 3, 0] rfl ?_
        refine r_iload_n (pc := 48) X dX4_readComparison_48 3 rfl ?_
        refine b_if_eq (tgt := 62) (pc := 49) X dX4_readComparison_49 (by decide) hf (fun hf => ?_) (fun hf => ?_)
        · exact c_f_Reader_readComparison_b62 X Y hr hf
        · refine r_aload_n (x := some 24) (pc := 52) X dX4_readComparison_52 0 rfl ?_
          refine r_dup (pc := 53) X dX4_readComparison_53 rfl ?_
          refine r_get (j := 2) (pc := 54) X ce_24 rfl inT4 (by decide) w_188 rfl dX4_readComparison_54 ?_
          refine r_iconst (v := 1) (pc := 57) X dX4_readComparison_57 (by decide) ?_
          refine r_iadd (pc := 58) X dX4_readComparison_58 ?_
          refine z_put (j := 2) (pc := 59) X ce_24 rfl inT4 tyX4 tyX4_ok nmX4 (by decide) w_188 rfl (tyX4_ok 2 (by decide)) rfl rfl (Nat.le_of_ble_eq_true rfl) (cp_1538 _) rfl rfl dX4_readComparison_59 hf (fun s12 hf => ?_)
          exact c_f_Reader_readComparison_b62 X Y hr hf
/-! f_Reader_readTerm -/
theorem dX4_readTerm_0 : decode cX4_readTerm 0 = .ok (.iload_n 1, 1) := by decide +kernel
theorem dX4_readTerm_1 : decode cX4_readTerm 1 = .ok (.bipush 40, 2) := by decide +kernel
theorem dX4_readTerm_3 : decode cX4_readTerm 3 = .ok (.if_icmp .le 5, 3) := by decide +kernel
theorem dX4_readTerm_6 : decode cX4_readTerm 6 = .ok (.aconst_null, 1) := by decide +kernel
theorem dX4_readTerm_7 : decode cX4_readTerm 7 = .ok (.areturn, 1) := by decide +kernel
theorem dX4_readTerm_8 : decode cX4_readTerm 8 = .ok (.aload_n 0, 1) := by decide +kernel
theorem dX4_readTerm_9 : decode cX4_readTerm 9 = .ok (.invokevirtual 38, 3) := by decide +kernel
theorem dX4_readTerm_12 : decode cX4_readTerm 12 = .ok (.istore_n 2, 1) := by decide +kernel
theorem dX4_readTerm_13 : decode cX4_readTerm 13 = .ok (.iload_n 2, 1) := by decide +kernel
theorem dX4_readTerm_14 : decode cX4_readTerm 14 = .ok (.bipush 33, 2) := by decide +kernel
theorem dX4_readTerm_16 : decode cX4_readTerm 16 = .ok (.if_icmp .ne 25, 3) := by decide +kernel
theorem dX4_readTerm_19 : decode cX4_readTerm 19 = .ok (.aload_n 0, 1) := by decide +kernel
theorem dX4_readTerm_20 : decode cX4_readTerm 20 = .ok (.dup, 1) := by decide +kernel
theorem dX4_readTerm_21 : decode cX4_readTerm 21 = .ok (.getfield 19, 3) := by decide +kernel
theorem dX4_readTerm_24 : decode cX4_readTerm 24 = .ok (.iconst 1, 1) := by decide +kernel
theorem dX4_readTerm_25 : decode cX4_readTerm 25 = .ok (.iadd, 1) := by decide +kernel
theorem dX4_readTerm_26 : decode cX4_readTerm 26 = .ok (.putfield 19, 3) := by decide +kernel
theorem dX4_readTerm_29 : decode cX4_readTerm 29 = .ok (.iload_n 2, 1) := by decide +kernel
theorem dX4_readTerm_30 : decode cX4_readTerm 30 = .ok (.aload_n 0, 1) := by decide +kernel
theorem dX4_readTerm_31 : decode cX4_readTerm 31 = .ok (.iload_n 1, 1) := by decide +kernel
theorem dX4_readTerm_32 : decode cX4_readTerm 32 = .ok (.iconst 1, 1) := by decide +kernel
theorem dX4_readTerm_33 : decode cX4_readTerm 33 = .ok (.iadd, 1) := by decide +kernel
theorem dX4_readTerm_34 : decode cX4_readTerm 34 = .ok (.invokevirtual 30, 3) := by decide +kernel
theorem dX4_readTerm_37 : decode cX4_readTerm 37 = .ok (.invokestatic 50, 3) := by decide +kernel
theorem dX4_readTerm_40 : decode cX4_readTerm 40 = .ok (.areturn, 1) := by decide +kernel
theorem dX4_readTerm_41 : decode cX4_readTerm 41 = .ok (.iload_n 2, 1) := by decide +kernel
theorem dX4_readTerm_42 : decode cX4_readTerm 42 = .ok (.bipush 40, 2) := by decide +kernel
theorem dX4_readTerm_44 : decode cX4_readTerm 44 = .ok (.if_icmp .ne 26, 3) := by decide +kernel
theorem dX4_readTerm_47 : decode cX4_readTerm 47 = .ok (.aload_n 0, 1) := by decide +kernel
theorem dX4_readTerm_48 : decode cX4_readTerm 48 = .ok (.dup, 1) := by decide +kernel
theorem dX4_readTerm_49 : decode cX4_readTerm 49 = .ok (.getfield 19, 3) := by decide +kernel
theorem dX4_readTerm_52 : decode cX4_readTerm 52 = .ok (.iconst 1, 1) := by decide +kernel
theorem dX4_readTerm_53 : decode cX4_readTerm 53 = .ok (.iadd, 1) := by decide +kernel
theorem dX4_readTerm_54 : decode cX4_readTerm 54 = .ok (.putfield 19, 3) := by decide +kernel
theorem dX4_readTerm_57 : decode cX4_readTerm 57 = .ok (.aload_n 0, 1) := by decide +kernel
theorem dX4_readTerm_58 : decode cX4_readTerm 58 = .ok (.aload_n 0, 1) := by decide +kernel
theorem dX4_readTerm_59 : decode cX4_readTerm 59 = .ok (.iconst 3, 1) := by decide +kernel
theorem dX4_readTerm_60 : decode cX4_readTerm 60 = .ok (.iload_n 1, 1) := by decide +kernel
theorem dX4_readTerm_61 : decode cX4_readTerm 61 = .ok (.iconst 1, 1) := by decide +kernel
theorem dX4_readTerm_62 : decode cX4_readTerm 62 = .ok (.iadd, 1) := by decide +kernel
theorem dX4_readTerm_63 : decode cX4_readTerm 63 = .ok (.invokevirtual 22, 3) := by decide +kernel
theorem dX4_readTerm_66 : decode cX4_readTerm 66 = .ok (.invokevirtual 54, 3) := by decide +kernel
theorem dX4_readTerm_69 : decode cX4_readTerm 69 = .ok (.areturn, 1) := by decide +kernel
theorem dX4_readTerm_70 : decode cX4_readTerm 70 = .ok (.aload_n 0, 1) := by decide +kernel
theorem dX4_readTerm_71 : decode cX4_readTerm 71 = .ok (.invokevirtual 71, 3) := by decide +kernel
theorem dX4_readTerm_74 : decode cX4_readTerm 74 = .ok (.areturn, 1) := by decide +kernel
def f_Reader_readTerm (R : Nat → St → Int32 → Int32 → Option (Option Nat × St)) (F Z : Nat) (s : St) (p1 : Int32) : Option (Option Nat × St) :=
  if p1 ≤ 40 then
    ((f_Reader_here F s).bind fun x1 => (if x1.1 = 33 then
      (lt (sI x1.2 1538 ((gI x1.2 1538) + 1)) fun s2 => ((R 3 s2 (p1 + 1) 0).bind fun x3 => (if sz x3.2 ≤ Z then ((f_Reader_before F Z x3.2 x1.1 x3.1).bind fun x4 => (if sz x4.2 ≤ Z then (some (x4.1, x4.2)) else none)) else none)))
    else
      (if x1.1 = 40 then
        (lt (sI x1.2 1538 ((gI x1.2 1538) + 1)) fun s5 => ((R 0 s5 3 (p1 + 1)).bind fun x6 => (if sz x6.2 ≤ Z then ((f_Reader_closed F x6.2 x6.1).bind fun x7 => (some (x7.1, x7.2))) else none)))
      else
        ((f_Reader_readComparison F Z x1.2).bind fun x8 => (if sz x8.2 ≤ Z then (some (x8.1, x8.2)) else none)))))
  else
    (some (none, s))
set_option maxHeartbeats 1000000 in
theorem c_f_Reader_readTerm {R : Nat → St → Int32 → Int32 → Option (Option Nat × St)} {fr lo : Nat} {F Z : Nat} {s : St} {p1 : Int32} {r : Option Nat} {s' : St} (hR : HRD R Z fr lo) (hf : f_Reader_readTerm R F Z s p1 = some (r, s')) : CX true yX4_readTerm (Cond.code yX4_readTerm cX4_readTerm 3 (some (.object "Pagerloom$Node"))) (fr + 4) (lo + 82) (Z - sz s) (12 * (Z - sz s)) (fun B => [.ref (B + 24), .int p1]) s (fun B => .inl (some (rfB B r))) s' (sz s' - sz s) (12 * (sz s' - sz s)) := by
  refine CX.ofZ (fun B => [(0, .ref (B + 24)), (1, .int p1)]) (by decide +kernel) (fun _ => rfl) (fun _ => (by simp [lg_sl, rfB_cat, catI, catL, catR])) (fun Γ D B X Y hr => ?_)
  have X : Cx Γ RX4 cX4_readTerm 3 D B (RM Γ B Z (fr + 4) (lo + 82)) := X
  unfold f_Reader_readTerm at hf
  refine r_iload_n (pc := 0) X dX4_readTerm_0 1 rfl ?_
  refine r_bipush (v := 40) (pc := 1) X dX4_readTerm_1 (by decide) ?_
  refine b_icmp_le (tgt := 8) (pc := 3) X dX4_readTerm_3 (by decide) hf (fun hf => ?_) (fun hf => ?_)
  · refine r_aload_n (x := some 24) (pc := 8) X dX4_readTerm_8 0 rfl ?_
    refine bnd hf (fun x1 h1 hf => ?_)
    refine z_callVi (As := []) (st := []) (pc := 9) X (c_f_Reader_here h1) rfl w_644 w_646 w_14 w_41 w_647 hdV_X4_here (Rc.s rfl ce_24) (by omega) (Nat.le_of_ble_eq_true rfl) dX4_readTerm_9 rfl ?_
    refine r_istore_n (pc := 12) (lv' := [(0, .ref (B + 24)), (1, .int p1), (2, .int x1.1)]) X dX4_readTerm_12 (by decide) [1, 2, 0] rfl ?_
    refine r_iload_n (pc := 13) X dX4_readTerm_13 2 rfl ?_
    refine r_bipush (v := 33) (pc := 14) X dX4_readTerm_14 (by decide) ?_
    refine b_icmp_ne (tgt := 41) (pc := 16) X dX4_readTerm_16 (by decide) hf (fun hf => ?_) (fun hf => ?_)
    · refine r_aload_n (x := some 24) (pc := 19) X dX4_readTerm_19 0 rfl ?_
      refine r_dup (pc := 20) X dX4_readTerm_20 rfl ?_
      refine r_get (j := 2) (pc := 21) X ce_24 rfl inT4 (by decide) w_188 rfl dX4_readTerm_21 ?_
      refine r_iconst (v := 1) (pc := 24) X dX4_readTerm_24 (by decide) ?_
      refine r_iadd (pc := 25) X dX4_readTerm_25 ?_
      refine z_put (j := 2) (pc := 26) X ce_24 rfl inT4 tyX4 tyX4_ok nmX4 (by decide) w_188 rfl (tyX4_ok 2 (by decide)) rfl rfl (Nat.le_of_ble_eq_true rfl) (cp_1538 _) rfl rfl dX4_readTerm_26 hf (fun s2 hf => ?_)
      refine r_iload_n (pc := 29) X dX4_readTerm_29 2 rfl ?_
      refine r_aload_n (x := some 24) (pc := 30) X dX4_readTerm_30 0 rfl ?_
      refine r_iload_n (pc := 31) X dX4_readTerm_31 1 rfl ?_
      refine r_iconst (v := 1) (pc := 32) X dX4_readTerm_32 (by decide) ?_
      refine r_iadd (pc := 33) X dX4_readTerm_33 ?_
      refine bnd hf (fun x3 h3 hf => ?_)
      refine ifo hf (fun hz hf => ?_)
      refine z_callXVq (As := [.int (p1 + 1)]) (st := [.int x1.1]) (pc := 34) X Y (hR.2.2.2 h3) rfl w_695 w_697 w_19 w_41 w_698 hdV_X4_readTerm (Rc.s rfl ce_24) (by omega) hz (Nat.le_of_ble_eq_true rfl) dX4_readTerm_34 rfl ?_
      refine bnd hf (fun x4 h4 hf => ?_)
      refine ifo hf (fun hz hf => ?_)
      refine z_callXSq (As := [.int x1.1, rfB B x3.1]) (st := []) (pc := 37) X Y (c_f_Reader_before h4) rfl w_648 w_649 w_41 w_650 hdS_X4_before (by omega) hz (Nat.le_of_ble_eq_true rfl) dX4_readTerm_37 rfl ?_
      exact z_aret (pc := 40) X hr hf dX4_readTerm_40
    · refine r_iload_n (pc := 41) X dX4_readTerm_41 2 rfl ?_
      refine r_bipush (v := 40) (pc := 42) X dX4_readTerm_42 (by decide) ?_
      refine b_icmp_ne (tgt := 70) (pc := 44) X dX4_readTerm_44 (by decide) hf (fun hf => ?_) (fun hf => ?_)
      · refine r_aload_n (x := some 24) (pc := 47) X dX4_readTerm_47 0 rfl ?_
        refine r_dup (pc := 48) X dX4_readTerm_48 rfl ?_
        refine r_get (j := 2) (pc := 49) X ce_24 rfl inT4 (by decide) w_188 rfl dX4_readTerm_49 ?_
        refine r_iconst (v := 1) (pc := 52) X dX4_readTerm_52 (by decide) ?_
        refine r_iadd (pc := 53) X dX4_readTerm_53 ?_
        refine z_put (j := 2) (pc := 54) X ce_24 rfl inT4 tyX4 tyX4_ok nmX4 (by decide) w_188 rfl (tyX4_ok 2 (by decide)) rfl rfl (Nat.le_of_ble_eq_true rfl) (cp_1538 _) rfl rfl dX4_readTerm_54 hf (fun s5 hf => ?_)
        refine r_aload_n (x := some 24) (pc := 57) X dX4_readTerm_57 0 rfl ?_
        refine r_aload_n (x := some 24) (pc := 58) X dX4_readTerm_58 0 rfl ?_
        refine r_iconst (v := 3) (pc := 59) X dX4_readTerm_59 (by decide) ?_
        refine r_iload_n (pc := 60) X dX4_readTerm_60 1 rfl ?_
        refine r_iconst (v := 1) (pc := 61) X dX4_readTerm_61 (by decide) ?_
        refine r_iadd (pc := 62) X dX4_readTerm_62 ?_
        refine bnd hf (fun x6 h6 hf => ?_)
        refine ifo hf (fun hz hf => ?_)
        refine z_callXVq (As := [.int 3, .int (p1 + 1)]) (st := [.ref (B + 24)]) (pc := 63) X Y (hR.1 h6) rfl w_636 w_638 w_12 w_41 w_639 hdV_X4_readChain (Rc.s rfl ce_24) (by omega) hz (Nat.le_of_ble_eq_true rfl) dX4_readTerm_63 rfl ?_
        refine bnd hf (fun x7 h7 hf => ?_)
        refine z_callVq (As := [rfB B x6.1]) (st := []) (pc := 66) X (c_f_Reader_closed h7) rfl w_674 w_676 w_15 w_41 w_677 hdV_X4_closed (Rc.s rfl ce_24) (by omega) (Nat.le_of_ble_eq_true rfl) dX4_readTerm_66 rfl ?_
        exact z_aret (pc := 69) X hr hf dX4_readTerm_69
      · refine r_aload_n (x := some 24) (pc := 70) X dX4_readTerm_70 0 rfl ?_
        refine bnd hf (fun x8 h8 hf => ?_)
        refine ifo hf (fun hz hf => ?_)
        refine z_callXVq (As := []) (st := []) (pc := 71) X Y (c_f_Reader_readComparison h8) rfl w_699 w_701 w_20 w_41 w_702 hdV_X4_readComparison (Rc.s rfl ce_24) (by omega) hz (Nat.le_of_ble_eq_true rfl) dX4_readTerm_71 rfl ?_
        exact z_aret (pc := 74) X hr hf dX4_readTerm_74
  · refine r_aconst_null (pc := 6) X dX4_readTerm_6 ?_
    exact z_aret (pc := 7) X hr hf dX4_readTerm_7
/-! f_Reader_readChain_t -/
def f_RD (F Z : Nat) : Nat → Nat → St → Int32 → Int32 → Option (Option Nat × St)
  | 0, _, _, _, _ => none
  | d + 1, t, s, a, b => match t with
    | 0 => f_Reader_readChain (f_RD F Z d) F Z s a b
    | 1 => f_Reader_readUnit (f_RD F Z d) F Z s a
    | 2 => f_Reader_readAggregate (f_RD F Z d) F Z s a
    | _ => f_Reader_readTerm (f_RD F Z d) F Z s a
def f_Reader_readChain_t (F Z : Nat) (s : St) (p1 : Int32) (p2 : Int32) : Option (Option Nat × St) := f_RD F Z 200 0 s p1 p2
theorem h_RD {F Z : Nat} : ∀ d, HRD (f_RD F Z d) Z (4 * d) (82 * d) := by
  intro d
  induction d with
  | zero => exact ⟨(fun h => by rw [f_RD] at h; cases h), (fun h => by rw [f_RD] at h; cases h), (fun h => by rw [f_RD] at h; cases h), (fun h => by rw [f_RD] at h; cases h)⟩
  | succ d ih => exact ⟨(fun h => c_f_Reader_readChain ih h), (fun h => c_f_Reader_readUnit ih h), (fun h => c_f_Reader_readAggregate ih h), (fun h => c_f_Reader_readTerm ih h)⟩
theorem c_f_Reader_readChain_t {F Z : Nat} {s : St} {p1 : Int32} {p2 : Int32} {r : Option Nat} {s' : St} (hf : f_Reader_readChain_t F Z s p1 p2 = some (r, s')) : CX true yX4_readChain (Cond.code yX4_readChain cX4_readChain 8 (some (.object "Pagerloom$Node"))) 800 16400 (Z - sz s) (12 * (Z - sz s)) (fun B => [.ref (B + 24), .int p1, .int p2]) s (fun B => .inl (some (rfB B r))) s' (sz s' - sz s) (12 * (sz s' - sz s)) := (h_RD 200).1 hf
/-! f_Reader_readUnit_t -/
def f_Reader_readUnit_t (F Z : Nat) (s : St) (p1 : Int32) : Option (Option Nat × St) := f_RD F Z 200 1 s p1 0
theorem c_f_Reader_readUnit_t {F Z : Nat} {s : St} {p1 : Int32} {r : Option Nat} {s' : St} (hf : f_Reader_readUnit_t F Z s p1 = some (r, s')) : CX true yX4_readUnit (Cond.code yX4_readUnit cX4_readUnit 3 (some (.object "Pagerloom$Node"))) 800 16400 (Z - sz s) (12 * (Z - sz s)) (fun B => [.ref (B + 24), .int p1]) s (fun B => .inl (some (rfB B r))) s' (sz s' - sz s) (12 * (sz s' - sz s)) := (h_RD 200).2.1 hf
/-! f_Reader_readAggregate_t -/
def f_Reader_readAggregate_t (F Z : Nat) (s : St) (p1 : Int32) : Option (Option Nat × St) := f_RD F Z 200 2 s p1 0
theorem c_f_Reader_readAggregate_t {F Z : Nat} {s : St} {p1 : Int32} {r : Option Nat} {s' : St} (hf : f_Reader_readAggregate_t F Z s p1 = some (r, s')) : CX true yX4_readAggregate (Cond.code yX4_readAggregate cX4_readAggregate 5 (some (.object "Pagerloom$Node"))) 800 16400 (Z - sz s) (12 * (Z - sz s)) (fun B => [.ref (B + 24), .int p1]) s (fun B => .inl (some (rfB B r))) s' (sz s' - sz s) (12 * (sz s' - sz s)) := (h_RD 200).2.2.1 hf
/-! f_Reader_readTerm_t -/
def f_Reader_readTerm_t (F Z : Nat) (s : St) (p1 : Int32) : Option (Option Nat × St) := f_RD F Z 200 3 s p1 0
theorem c_f_Reader_readTerm_t {F Z : Nat} {s : St} {p1 : Int32} {r : Option Nat} {s' : St} (hf : f_Reader_readTerm_t F Z s p1 = some (r, s')) : CX true yX4_readTerm (Cond.code yX4_readTerm cX4_readTerm 3 (some (.object "Pagerloom$Node"))) 800 16400 (Z - sz s) (12 * (Z - sz s)) (fun B => [.ref (B + 24), .int p1]) s (fun B => .inl (some (rfB B r))) s' (sz s' - sz s) (12 * (sz s' - sz s)) := (h_RD 200).2.2.2 hf
/-! f_Reader_read -/
theorem dX4_read_0 : decode cX4_read 0 = .ok (.aload_n 0, 1) := by decide +kernel
theorem dX4_read_1 : decode cX4_read 1 = .ok (.aload_n 1, 1) := by decide +kernel
theorem dX4_read_2 : decode cX4_read 2 = .ok (.putfield 9, 3) := by decide +kernel
theorem dX4_read_5 : decode cX4_read 5 = .ok (.aload_n 0, 1) := by decide +kernel
theorem dX4_read_6 : decode cX4_read 6 = .ok (.iload_n 2, 1) := by decide +kernel
theorem dX4_read_7 : decode cX4_read 7 = .ok (.putfield 15, 3) := by decide +kernel
theorem dX4_read_10 : decode cX4_read 10 = .ok (.aload_n 0, 1) := by decide +kernel
theorem dX4_read_11 : decode cX4_read 11 = .ok (.iconst 0, 1) := by decide +kernel
theorem dX4_read_12 : decode cX4_read 12 = .ok (.putfield 19, 3) := by decide +kernel
theorem dX4_read_15 : decode cX4_read 15 = .ok (.aload_n 0, 1) := by decide +kernel
theorem dX4_read_16 : decode cX4_read 16 = .ok (.iconst 0, 1) := by decide +kernel
theorem dX4_read_17 : decode cX4_read 17 = .ok (.iconst 0, 1) := by decide +kernel
theorem dX4_read_18 : decode cX4_read 18 = .ok (.invokevirtual 22, 3) := by decide +kernel
theorem dX4_read_21 : decode cX4_read 21 = .ok (.astore_n 3, 1) := by decide +kernel
theorem dX4_read_22 : decode cX4_read 22 = .ok (.aload_n 0, 1) := by decide +kernel
theorem dX4_read_23 : decode cX4_read 23 = .ok (.getfield 19, 3) := by decide +kernel
theorem dX4_read_26 : decode cX4_read 26 = .ok (.aload_n 0, 1) := by decide +kernel
theorem dX4_read_27 : decode cX4_read 27 = .ok (.getfield 15, 3) := by decide +kernel
theorem dX4_read_30 : decode cX4_read 30 = .ok (.if_icmp .ge 7, 3) := by decide +kernel
theorem dX4_read_33 : decode cX4_read 33 = .ok (.aconst_null, 1) := by decide +kernel
theorem dX4_read_34 : decode cX4_read 34 = .ok (.goto 4, 3) := by decide +kernel
theorem dX4_read_37 : decode cX4_read 37 = .ok (.aload_n 3, 1) := by decide +kernel
theorem dX4_read_38 : decode cX4_read 38 = .ok (.areturn, 1) := by decide +kernel
def f_Reader_read (F Z : Nat) (s : St) (p2 : Int32) : Option (Option Nat × St) :=
  lt (sR s 1536 (some 1)) fun s1 => (lt (sI s1 1537 p2) fun s2 => (lt (sI s2 1538 0) fun s3 => ((f_Reader_readChain_t F Z s3 0 0).bind fun x4 => (if sz x4.2 ≤ Z then (if (gI x4.2 1537) ≤ (gI x4.2 1538) then
    (some (x4.1, x4.2))
  else
    (some (none, x4.2))) else none))))
set_option maxHeartbeats 1000000 in
theorem c_f_Reader_read {F Z : Nat} {s : St} {p2 : Int32} {r : Option Nat} {s' : St} (hf : f_Reader_read F Z s p2 = some (r, s')) : CX true yX4_read (Cond.code yX4_read cX4_read 4 (some (.object "Pagerloom$Node"))) (801) (16427) (Z - sz s) (12 * (Z - sz s)) (fun B => [.ref (B + 24), .ref (B + 1), .int p2]) s (fun B => .inl (some (rfB B r))) s' (sz s' - sz s) (12 * (sz s' - sz s)) := by
  refine CX.ofZ (fun B => [(0, .ref (B + 24)), (1, .ref (B + 1)), (2, .int p2)]) (by decide +kernel) (fun _ => rfl) (fun _ => (by simp [lg_sl, rfB_cat, catI, catL, catR])) (fun Γ D B X Y hr => ?_)
  have X : Cx Γ RX4 cX4_read 4 D B (RM Γ B Z (801) (16427)) := X
  unfold f_Reader_read at hf
  refine r_aload_n (x := some 24) (pc := 0) X dX4_read_0 0 rfl ?_
  refine r_aload_n (x := some 1) (pc := 1) X dX4_read_1 1 rfl ?_
  refine z_put (j := 0) (pc := 2) X ce_24 rfl inT4 tyX4 tyX4_ok nmX4 (by decide) w_186 rfl (tyX4_ok 0 (by decide)) rfl rfl (Nat.le_of_ble_eq_true rfl) (cp_1536 _) rfl rfl dX4_read_2 hf (fun s1 hf => ?_)
  refine r_aload_n (x := some 24) (pc := 5) X dX4_read_5 0 rfl ?_
  refine r_iload_n (pc := 6) X dX4_read_6 2 rfl ?_
  refine z_put (j := 1) (pc := 7) X ce_24 rfl inT4 tyX4 tyX4_ok nmX4 (by decide) w_187 rfl (tyX4_ok 1 (by decide)) rfl rfl (Nat.le_of_ble_eq_true rfl) (cp_1537 _) rfl rfl dX4_read_7 hf (fun s2 hf => ?_)
  refine r_aload_n (x := some 24) (pc := 10) X dX4_read_10 0 rfl ?_
  refine r_iconst (v := 0) (pc := 11) X dX4_read_11 (by decide) ?_
  refine z_put (j := 2) (pc := 12) X ce_24 rfl inT4 tyX4 tyX4_ok nmX4 (by decide) w_188 rfl (tyX4_ok 2 (by decide)) rfl rfl (Nat.le_of_ble_eq_true rfl) (cp_1538 _) rfl rfl dX4_read_12 hf (fun s3 hf => ?_)
  refine r_aload_n (x := some 24) (pc := 15) X dX4_read_15 0 rfl ?_
  refine r_iconst (v := 0) (pc := 16) X dX4_read_16 (by decide) ?_
  refine r_iconst (v := 0) (pc := 17) X dX4_read_17 (by decide) ?_
  refine bnd hf (fun x4 h4 hf => ?_)
  refine ifo hf (fun hz hf => ?_)
  refine z_callXVq (As := [.int 0, .int 0]) (st := []) (pc := 18) X Y (c_f_Reader_readChain_t h4) rfl w_636 w_638 w_12 w_41 w_639 hdV_X4_readChain (Rc.s rfl ce_24) (by decide) hz (Nat.le_of_ble_eq_true rfl) dX4_read_18 rfl ?_
  refine r_astore_n (pc := 21) (lv' := [(0, .ref (B + 24)), (3, rfB B x4.1)]) X dX4_read_21 (by decide) [1, 0] rfl ?_
  refine r_aload_n (x := some 24) (pc := 22) X dX4_read_22 0 rfl ?_
  refine r_get (j := 2) (pc := 23) X ce_24 rfl inT4 (by decide) w_188 rfl dX4_read_23 ?_
  refine r_aload_n (x := some 24) (pc := 26) X dX4_read_26 0 rfl ?_
  refine r_get (j := 1) (pc := 27) X ce_24 rfl inT4 (by decide) w_187 rfl dX4_read_27 ?_
  refine b_icmp_ge (tgt := 37) (pc := 30) X dX4_read_30 (by decide) hf (fun hf => ?_) (fun hf => ?_)
  · refine r_aload_n (pc := 37) X dX4_read_37 1 rfl ?_
    exact z_aret (pc := 38) X hr hf dX4_read_38
  · refine r_aconst_null (pc := 33) X dX4_read_33 ?_
    refine r_goto (tgt := 38) (pc := 34) X dX4_read_34 (by decide) ?_
    exact z_aret (pc := 38) X hr hf dX4_read_38
/-! f_Walker_run -/
theorem dX9_run_0 : decode cX9_run 0 = .ok (.aload_n 0, 1) := by decide +kernel
theorem dX9_run_1 : decode cX9_run 1 = .ok (.aload_n 1, 1) := by decide +kernel
theorem dX9_run_2 : decode cX9_run 2 = .ok (.aload_n 2, 1) := by decide +kernel
theorem dX9_run_3 : decode cX9_run 3 = .ok (.iconst (-1), 1) := by decide +kernel
theorem dX9_run_4 : decode cX9_run 4 = .ok (.iconst 0, 1) := by decide +kernel
theorem dX9_run_5 : decode cX9_run 5 = .ok (.invokevirtual 18, 3) := by decide +kernel
theorem dX9_run_8 : decode cX9_run 8 = .ok (.lreturn, 1) := by decide +kernel
def f_Walker_run (F : Nat) (s : St) (p1 : Option Nat) : Option (Int64 × St) :=
  (f_Walker_valueOf_t F s p1 (-1) 0).bind fun x1 => (some (x1.1, x1.2))
set_option maxHeartbeats 1000000 in
theorem c_f_Walker_run {F : Nat} {s : St} {p1 : Option Nat} {r : Int64} {s' : St} (hf : f_Walker_run F s p1 = some (r, s')) : CC true yX9_run (Cond.code yX9_run cX9_run 3 (some .long)) (201) (4624) (fun B => [.ref (B + 30), rfB B p1, .ref (B + 3)]) s (fun B => (some (.long r))) s' 0 0 := by
  refine CC.of (fun B => [(0, .ref (B + 30)), (1, rfB B p1), (2, .ref (B + 3))]) (by decide +kernel) (fun _ => (by simp [lv_args, rfB_cat, catI, catL, catR])) (fun _ => (by simp [lg_sl, rfB_cat, catI, catL, catR])) (fun Γ D B X hr hin => ?_)
  have X : Cx Γ RX9 cX9_run 3 D B { frames := 201, cells := 0, slots := 0, locals := 4624 } := X
  unfold f_Walker_run at hf
  refine r_aload_n (x := some 30) (pc := 0) X dX9_run_0 0 rfl ?_
  refine r_aload_n (pc := 1) X dX9_run_1 1 rfl ?_
  refine r_aload_n (x := some 3) (pc := 2) X dX9_run_2 2 rfl ?_
  refine r_iconst (v := -1) (pc := 3) X dX9_run_3 (by decide) ?_
  refine r_iconst (v := 0) (pc := 4) X dX9_run_4 (by decide) ?_
  refine bnd hf (fun x1 h1 hf => ?_)
  refine r_callVl (As := [rfB B p1, .ref (B + 3), .int (-1), .int 0]) (st := []) (pc := 5) X (c_f_Walker_valueOf_t h1) rfl w_548 w_550 w_8 w_43 w_551 hdV_X9_valueOf (Rc.s rfl ce_30) (by decide) (by decide) (by decide) (Nat.le_of_ble_eq_true rfl) dX9_run_5 rfl ?_
  exact e_lret (pc := 8) X hr hf (Nat.le_refl _) (Nat.le_refl _) dX9_run_8
