/-! f_M_isNight -/
theorem dX11_isNight_0 : decode cX11_isNight 0 = .ok (.iload_n 0, 1) := by decide +kernel
theorem dX11_isNight_1 : decode cX11_isNight 1 = .ok (.iconst 3, 1) := by decide +kernel
theorem dX11_isNight_2 : decode cX11_isNight 2 = .ok (.irem, 1) := by decide +kernel
theorem dX11_isNight_3 : decode cX11_isNight 3 = .ok (.ifCond .ne 7, 3) := by decide +kernel
theorem dX11_isNight_6 : decode cX11_isNight 6 = .ok (.iconst 1, 1) := by decide +kernel
theorem dX11_isNight_7 : decode cX11_isNight 7 = .ok (.goto 4, 3) := by decide +kernel
theorem dX11_isNight_10 : decode cX11_isNight 10 = .ok (.iconst 0, 1) := by decide +kernel
theorem dX11_isNight_11 : decode cX11_isNight 11 = .ok (.ireturn, 1) := by decide +kernel
def f_M_isNight (F : Nat) (s : St) (p0 : Int32) : Option (Int32 × St) :=
  if (p0 - p0 / 3 * 3) = 0 then
    (some (1, s))
  else
    (some (0, s))
set_option maxHeartbeats 1000000 in
theorem c_f_M_isNight {F : Nat} {s : St} {p0 : Int32} {r : Int32} {s' : St} (hf : f_M_isNight F s p0 = some (r, s')) : CC true yX11_isNight (Cond.code yX11_isNight cX11_isNight 1 (some .boolean)) 0 0 (fun B => [.int p0]) s (fun B => (some (.int r))) s' 0 0 := by
  refine CC.of (fun B => [(0, .int p0)]) (by decide +kernel) (fun _ => rfl) (fun _ => (by simp [lg_sl, rfB_cat, catI, catL, catR])) (fun Γ D B X hr hin => ?_)
  have X : Cx Γ RX11 cX11_isNight 1 D B { frames := 0, cells := 0, slots := 0, locals := 0 } := X
  unfold f_M_isNight at hf
  refine r_iload_n (pc := 0) X dX11_isNight_0 0 rfl ?_
  refine r_iconst (v := 3) (pc := 1) X dX11_isNight_1 (by decide) ?_
  refine r_irem (pc := 2) X dX11_isNight_2 (by decide) ?_
  refine b_if_ne (tgt := 10) (pc := 3) X dX11_isNight_3 (by decide) hf (fun hf => ?_) (fun hf => ?_)
  · refine r_iconst (v := 1) (pc := 6) X dX11_isNight_6 (by decide) ?_
    refine r_goto (tgt := 11) (pc := 7) X dX11_isNight_7 (by decide) ?_
    exact e_zret (pc := 11) X hr (by decide) hf (Nat.le_refl _) (Nat.le_refl _) dX11_isNight_11
  · refine r_iconst (v := 0) (pc := 10) X dX11_isNight_10 (by decide) ?_
    exact e_zret (pc := 11) X hr (by decide) hf (Nat.le_refl _) (Nat.le_refl _) dX11_isNight_11
/-! f_M_holderOf -/
theorem dX11_holderOf_0 : decode cX11_holderOf 0 = .ok (.aload_n 0, 1) := by decide +kernel
theorem dX11_holderOf_1 : decode cX11_holderOf 1 = .ok (.iload_n 1, 1) := by decide +kernel
theorem dX11_holderOf_2 : decode cX11_holderOf 2 = .ok (.invokevirtual 281, 3) := by decide +kernel
theorem dX11_holderOf_5 : decode cX11_holderOf 5 = .ok (.istore_n 2, 1) := by decide +kernel
theorem dX11_holderOf_6 : decode cX11_holderOf 6 = .ok (.aload_n 0, 1) := by decide +kernel
theorem dX11_holderOf_7 : decode cX11_holderOf 7 = .ok (.iconst (-1), 1) := by decide +kernel
theorem dX11_holderOf_8 : decode cX11_holderOf 8 = .ok (.putfield 284, 3) := by decide +kernel
theorem dX11_holderOf_11 : decode cX11_holderOf 11 = .ok (.iload_n 2, 1) := by decide +kernel
theorem dX11_holderOf_12 : decode cX11_holderOf 12 = .ok (.iconst (-1), 1) := by decide +kernel
theorem dX11_holderOf_13 : decode cX11_holderOf 13 = .ok (.if_icmp .ne 5, 3) := by decide +kernel
theorem dX11_holderOf_16 : decode cX11_holderOf 16 = .ok (.iconst (-1), 1) := by decide +kernel
theorem dX11_holderOf_17 : decode cX11_holderOf 17 = .ok (.ireturn, 1) := by decide +kernel
theorem dX11_holderOf_18 : decode cX11_holderOf 18 = .ok (.aload_n 0, 1) := by decide +kernel
theorem dX11_holderOf_19 : decode cX11_holderOf 19 = .ok (.iload_n 2, 1) := by decide +kernel
theorem dX11_holderOf_20 : decode cX11_holderOf 20 = .ok (.iload_n 1, 1) := by decide +kernel
theorem dX11_holderOf_21 : decode cX11_holderOf 21 = .ok (.invokevirtual 287, 3) := by decide +kernel
theorem dX11_holderOf_24 : decode cX11_holderOf 24 = .ok (.ifCond .eq 54, 3) := by decide +kernel
theorem dX11_holderOf_27 : decode cX11_holderOf 27 = .ok (.iconst (-1), 1) := by decide +kernel
theorem dX11_holderOf_28 : decode cX11_holderOf 28 = .ok (.istore_n 3, 1) := by decide +kernel
theorem dX11_holderOf_29 : decode cX11_holderOf 29 = .ok (.aload_n 0, 1) := by decide +kernel
theorem dX11_holderOf_30 : decode cX11_holderOf 30 = .ok (.getfield 278, 3) := by decide +kernel
theorem dX11_holderOf_33 : decode cX11_holderOf 33 = .ok (.iconst 1, 1) := by decide +kernel
theorem dX11_holderOf_34 : decode cX11_holderOf 34 = .ok (.isub, 1) := by decide +kernel
theorem dX11_holderOf_35 : decode cX11_holderOf 35 = .ok (.istore 4, 2) := by decide +kernel
theorem dX11_holderOf_37 : decode cX11_holderOf 37 = .ok (.iload 4, 2) := by decide +kernel
theorem dX11_holderOf_39 : decode cX11_holderOf 39 = .ok (.ifCond .le 37, 3) := by decide +kernel
theorem dX11_holderOf_42 : decode cX11_holderOf 42 = .ok (.iload_n 2, 1) := by decide +kernel
theorem dX11_holderOf_43 : decode cX11_holderOf 43 = .ok (.iload 4, 2) := by decide +kernel
theorem dX11_holderOf_45 : decode cX11_holderOf 45 = .ok (.iadd, 1) := by decide +kernel
theorem dX11_holderOf_46 : decode cX11_holderOf 46 = .ok (.aload_n 0, 1) := by decide +kernel
theorem dX11_holderOf_47 : decode cX11_holderOf 47 = .ok (.getfield 278, 3) := by decide +kernel
theorem dX11_holderOf_50 : decode cX11_holderOf 50 = .ok (.irem, 1) := by decide +kernel
theorem dX11_holderOf_51 : decode cX11_holderOf 51 = .ok (.istore 5, 2) := by decide +kernel
theorem dX11_holderOf_53 : decode cX11_holderOf 53 = .ok (.aload_n 0, 1) := by decide +kernel
theorem dX11_holderOf_54 : decode cX11_holderOf 54 = .ok (.iload 5, 2) := by decide +kernel
theorem dX11_holderOf_56 : decode cX11_holderOf 56 = .ok (.iload_n 1, 1) := by decide +kernel
theorem dX11_holderOf_57 : decode cX11_holderOf 57 = .ok (.invokevirtual 287, 3) := by decide +kernel
theorem dX11_holderOf_60 : decode cX11_holderOf 60 = .ok (.ifCond .eq 7, 3) := by decide +kernel
theorem dX11_holderOf_63 : decode cX11_holderOf 63 = .ok (.iload_n 3, 1) := by decide +kernel
theorem dX11_holderOf_64 : decode cX11_holderOf 64 = .ok (.goto 5, 3) := by decide +kernel
theorem dX11_holderOf_67 : decode cX11_holderOf 67 = .ok (.iload 5, 2) := by decide +kernel
theorem dX11_holderOf_69 : decode cX11_holderOf 69 = .ok (.istore_n 3, 1) := by decide +kernel
theorem dX11_holderOf_70 : decode cX11_holderOf 70 = .ok (.iinc 4 (-1), 3) := by decide +kernel
theorem dX11_holderOf_73 : decode cX11_holderOf 73 = .ok (.goto (-36), 3) := by decide +kernel
theorem dX11_holderOf_76 : decode cX11_holderOf 76 = .ok (.iload_n 3, 1) := by decide +kernel
theorem dX11_holderOf_77 : decode cX11_holderOf 77 = .ok (.ireturn, 1) := by decide +kernel
theorem dX11_holderOf_78 : decode cX11_holderOf 78 = .ok (.aload_n 0, 1) := by decide +kernel
theorem dX11_holderOf_79 : decode cX11_holderOf 79 = .ok (.getfield 291, 3) := by decide +kernel
theorem dX11_holderOf_82 : decode cX11_holderOf 82 = .ok (.iconst 1, 1) := by decide +kernel
theorem dX11_holderOf_83 : decode cX11_holderOf 83 = .ok (.isub, 1) := by decide +kernel
theorem dX11_holderOf_84 : decode cX11_holderOf 84 = .ok (.istore_n 3, 1) := by decide +kernel
theorem dX11_holderOf_85 : decode cX11_holderOf 85 = .ok (.iload_n 3, 1) := by decide +kernel
theorem dX11_holderOf_86 : decode cX11_holderOf 86 = .ok (.ifCond .lt 58, 3) := by decide +kernel
theorem dX11_holderOf_89 : decode cX11_holderOf 89 = .ok (.iload_n 1, 1) := by decide +kernel
theorem dX11_holderOf_90 : decode cX11_holderOf 90 = .ok (.invokestatic 294, 3) := by decide +kernel
theorem dX11_holderOf_93 : decode cX11_holderOf 93 = .ok (.ifCond .eq 51, 3) := by decide +kernel
theorem dX11_holderOf_96 : decode cX11_holderOf 96 = .ok (.aload_n 0, 1) := by decide +kernel
theorem dX11_holderOf_97 : decode cX11_holderOf 97 = .ok (.aload_n 0, 1) := by decide +kernel
theorem dX11_holderOf_98 : decode cX11_holderOf 98 = .ok (.getfield 99, 3) := by decide +kernel
theorem dX11_holderOf_101 : decode cX11_holderOf 101 = .ok (.iload_n 3, 1) := by decide +kernel
theorem dX11_holderOf_102 : decode cX11_holderOf 102 = .ok (.iaload, 1) := by decide +kernel
theorem dX11_holderOf_103 : decode cX11_holderOf 103 = .ok (.bipush 8, 2) := by decide +kernel
theorem dX11_holderOf_105 : decode cX11_holderOf 105 = .ok (.irem, 1) := by decide +kernel
theorem dX11_holderOf_106 : decode cX11_holderOf 106 = .ok (.iload_n 2, 1) := by decide +kernel
theorem dX11_holderOf_107 : decode cX11_holderOf 107 = .ok (.if_icmp .ne 24, 3) := by decide +kernel
theorem dX11_holderOf_110 : decode cX11_holderOf 110 = .ok (.aload_n 0, 1) := by decide +kernel
theorem dX11_holderOf_111 : decode cX11_holderOf 111 = .ok (.aload_n 0, 1) := by decide +kernel
theorem dX11_holderOf_112 : decode cX11_holderOf 112 = .ok (.getfield 99, 3) := by decide +kernel
theorem dX11_holderOf_115 : decode cX11_holderOf 115 = .ok (.iload_n 3, 1) := by decide +kernel
theorem dX11_holderOf_116 : decode cX11_holderOf 116 = .ok (.iaload, 1) := by decide +kernel
theorem dX11_holderOf_117 : decode cX11_holderOf 117 = .ok (.bipush 8, 2) := by decide +kernel
theorem dX11_holderOf_119 : decode cX11_holderOf 119 = .ok (.idiv, 1) := by decide +kernel
theorem dX11_holderOf_120 : decode cX11_holderOf 120 = .ok (.iload_n 1, 1) := by decide +kernel
theorem dX11_holderOf_121 : decode cX11_holderOf 121 = .ok (.invokevirtual 287, 3) := by decide +kernel
theorem dX11_holderOf_124 : decode cX11_holderOf 124 = .ok (.ifCond .ne 7, 3) := by decide +kernel
theorem dX11_holderOf_127 : decode cX11_holderOf 127 = .ok (.iload_n 3, 1) := by decide +kernel
theorem dX11_holderOf_128 : decode cX11_holderOf 128 = .ok (.goto 7, 3) := by decide +kernel
theorem dX11_holderOf_131 : decode cX11_holderOf 131 = .ok (.aload_n 0, 1) := by decide +kernel
theorem dX11_holderOf_132 : decode cX11_holderOf 132 = .ok (.getfield 284, 3) := by decide +kernel
theorem dX11_holderOf_135 : decode cX11_holderOf 135 = .ok (.putfield 284, 3) := by decide +kernel
theorem dX11_holderOf_138 : decode cX11_holderOf 138 = .ok (.iinc 3 (-1), 3) := by decide +kernel
theorem dX11_holderOf_141 : decode cX11_holderOf 141 = .ok (.goto (-56), 3) := by decide +kernel
theorem dX11_holderOf_144 : decode cX11_holderOf 144 = .ok (.aload_n 0, 1) := by decide +kernel
theorem dX11_holderOf_145 : decode cX11_holderOf 145 = .ok (.getfield 284, 3) := by decide +kernel
theorem dX11_holderOf_148 : decode cX11_holderOf 148 = .ok (.iconst (-1), 1) := by decide +kernel
theorem dX11_holderOf_149 : decode cX11_holderOf 149 = .ok (.if_icmp .ne 7, 3) := by decide +kernel
theorem dX11_holderOf_152 : decode cX11_holderOf 152 = .ok (.iload_n 2, 1) := by decide +kernel
theorem dX11_holderOf_153 : decode cX11_holderOf 153 = .ok (.goto 15, 3) := by decide +kernel
theorem dX11_holderOf_156 : decode cX11_holderOf 156 = .ok (.aload_n 0, 1) := by decide +kernel
theorem dX11_holderOf_157 : decode cX11_holderOf 157 = .ok (.getfield 99, 3) := by decide +kernel
theorem dX11_holderOf_160 : decode cX11_holderOf 160 = .ok (.aload_n 0, 1) := by decide +kernel
theorem dX11_holderOf_161 : decode cX11_holderOf 161 = .ok (.getfield 284, 3) := by decide +kernel
theorem dX11_holderOf_164 : decode cX11_holderOf 164 = .ok (.iaload, 1) := by decide +kernel
theorem dX11_holderOf_165 : decode cX11_holderOf 165 = .ok (.bipush 8, 2) := by decide +kernel
theorem dX11_holderOf_167 : decode cX11_holderOf 167 = .ok (.idiv, 1) := by decide +kernel
theorem dX11_holderOf_168 : decode cX11_holderOf 168 = .ok (.ireturn, 1) := by decide +kernel
def f_M_holderOf_b144 (F : Nat) (s : St) (l2 : Int32) : Option (Int32 × St) :=
  if (gI s 2550) = (-1) then
    (some (l2, s))
  else
    ((ix 4000 (gI s 2550)).bind fun j4 => (some (((gA s 69 j4) / 8), s)))
def f_M_holderOf_b85 (F : Nat) : Nat → St → Int32 → Int32 → Int32 → Option (Int32 × St)
  | 0, _, _, _, _ => none
  | n + 1, s, l1, l2, l3 =>
    if l3 < 0 then
      (f_M_holderOf_b144 F s l2)
    else
      ((f_M_isNight F s l1).bind fun x5 => (if x5.1 = 0 then
        (f_M_holderOf_b144 F x5.2 l2)
      else
        ((ix 4000 l3).bind fun j6 => (if ((gA x5.2 69 j6) - (gA x5.2 69 j6) / 8 * 8) = l2 then
          ((ix 4000 l3).bind fun j7 => ((f_M_isOffIn F x5.2 ((gA x5.2 69 j7) / 8) l1).bind fun x8 => (if x8.1 = 0 then
            (lt (sI x8.2 2550 l3) fun s9 => (f_M_holderOf_b85 F n s9 l1 l2 (l3 + (-1))))
          else
            (lt (sI x8.2 2550 (gI x8.2 2550)) fun s10 => (f_M_holderOf_b85 F n s10 l1 l2 (l3 + (-1)))))))
        else
          (lt (sI x5.2 2550 (gI x5.2 2550)) fun s11 => (f_M_holderOf_b85 F n s11 l1 l2 (l3 + (-1))))))))
def f_M_holderOf_b37 (F : Nat) : Nat → St → Int32 → Int32 → Int32 → Int32 → Option (Int32 × St)
  | 0, _, _, _, _, _ => none
  | n + 1, s, l1, l2, l3, l4 =>
    if l4 ≤ 0 then
      (some (l3, s))
    else
      (if gI s 2532 = 0 then none else ((f_M_isOffIn F s ((l2 + l4) - (l2 + l4) / (gI s 2532) * (gI s 2532)) l1).bind fun x12 => (if x12.1 = 0 then
        (f_M_holderOf_b37 F n x12.2 l1 l2 ((l2 + l4) - (l2 + l4) / (gI s 2532) * (gI s 2532)) (l4 + (-1)))
      else
        (f_M_holderOf_b37 F n x12.2 l1 l2 l3 (l4 + (-1))))))
def f_M_holderOf (F : Nat) (s : St) (p1 : Int32) : Option (Int32 × St) :=
  (f_M_plannedFor F s p1).bind fun x1 => (lt (sI x1.2 2550 (-1)) fun s2 => (if x1.1 = (-1) then
    (some ((-1), s2))
  else
    ((f_M_isOffIn F s2 x1.1 p1).bind fun x3 => (if x3.1 = 0 then
      (f_M_holderOf_b85 F F x3.2 p1 x1.1 ((gI x3.2 2548) - 1))
    else
      (f_M_holderOf_b37 F F x3.2 p1 x1.1 (-1) ((gI x3.2 2532) - 1))))))
set_option maxHeartbeats 1000000 in
theorem c_f_M_holderOf_b144 {F : Nat} {Γ : Ga} {D : DD} {B : Nat} {r : Int32} {s' : St} (X : Cx Γ RX11 cX11_holderOf 6 D B { frames := 1, cells := 0, slots := 0, locals := 22 }) (hr : (Gme Γ).sig.returnType = (some .int)) {s : St} {l2 : Int32} (hf : f_M_holderOf_b144 F s l2 = some (r, s')) : V Γ D B true 6 (QM Γ D B true s' (some (.int r)) 0 0) 0 0 s 144 [(0, .ref (B + 39)), (2, .int l2)] [] := by
  unfold f_M_holderOf_b144 at hf
  refine r_aload_n (x := some 39) (pc := 144) X dX11_holderOf_144 0 rfl ?_
  refine r_get (j := 54) (pc := 145) X ce_39 rfl inT11 (by decide) w_1134 rfl dX11_holderOf_145 ?_
  refine r_iconst (v := -1) (pc := 148) X dX11_holderOf_148 (by decide) ?_
  refine b_icmp_ne (tgt := 156) (pc := 149) X dX11_holderOf_149 (by decide) hf (fun hf => ?_) (fun hf => ?_)
  · refine r_iload_n (pc := 152) X dX11_holderOf_152 1 rfl ?_
    refine r_goto (tgt := 168) (pc := 153) X dX11_holderOf_153 (by decide) ?_
    exact e_iret (pc := 168) X hr hf (Nat.le_refl _) (Nat.le_refl _) dX11_holderOf_168
  · refine r_aload_n (x := some 39) (pc := 156) X dX11_holderOf_156 0 rfl ?_
    refine r_get (j := 53) (pc := 157) X ce_39 rfl inT11 (by decide) w_1133 rfl dX11_holderOf_157 ?_
    refine r_aload_n (x := some 39) (pc := 160) X dX11_holderOf_160 0 rfl ?_
    refine r_get (j := 54) (pc := 161) X ce_39 rfl inT11 (by decide) w_1134 rfl dX11_holderOf_161 ?_
    refine b_iald (pc := 164) X ce_69 dX11_holderOf_164 hf (fun j4 hf => ?_)
    refine r_bipush (v := 8) (pc := 165) X dX11_holderOf_165 (by decide) ?_
    refine r_idiv (pc := 167) X dX11_holderOf_167 (by decide) ?_
    exact e_iret (pc := 168) X hr hf (Nat.le_refl _) (Nat.le_refl _) dX11_holderOf_168
set_option maxHeartbeats 1000000 in
theorem c_f_M_holderOf_b85 {F : Nat} {Γ : Ga} {D : DD} {B : Nat} {r : Int32} {s' : St} (X : Cx Γ RX11 cX11_holderOf 6 D B { frames := 1, cells := 0, slots := 0, locals := 22 }) (hr : (Gme Γ).sig.returnType = (some .int)) : ∀ (n : Nat) {s : St} {l1 : Int32} {l2 : Int32} {l3 : Int32}, f_M_holderOf_b85 F n s l1 l2 l3 = some (r, s') → V Γ D B true 6 (QM Γ D B true s' (some (.int r)) 0 0) 0 0 s 85 [(0, .ref (B + 39)), (1, .int l1), (2, .int l2), (3, .int l3)] [] := by
  intro n
  induction n with
  | zero => intro s l1 l2 l3 hf; rw [f_M_holderOf_b85] at hf; cases hf
  | succ n ih =>
    intro s l1 l2 l3 hf
    rw [f_M_holderOf_b85] at hf
    refine r_iload_n (pc := 85) X dX11_holderOf_85 3 rfl ?_
    refine b_if_lt (tgt := 144) (pc := 86) X dX11_holderOf_86 (by decide) hf (fun hf => ?_) (fun hf => ?_)
    · refine r_forget (lv' := [(0, .ref (B + 39)), (2, .int l2)]) [0, 2] rfl ?_
      exact c_f_M_holderOf_b144 X hr hf
    · refine r_iload_n (pc := 89) X dX11_holderOf_89 1 rfl ?_
      refine bnd hf (fun x5 h5 hf => ?_)
      refine r_callSi (As := [.int l1]) (st := []) (pc := 90) X (c_f_M_isNight h5) rfl w_1417 w_1418 w_84 w_1419 hdS_X11_isNight (by decide) (by decide) (by decide) (Nat.le_of_ble_eq_true rfl) dX11_holderOf_90 rfl ?_
      refine b_if_eq (tgt := 144) (pc := 93) X dX11_holderOf_93 (by decide) hf (fun hf => ?_) (fun hf => ?_)
      · refine r_forget (lv' := [(0, .ref (B + 39)), (2, .int l2)]) [0, 2] rfl ?_
        exact c_f_M_holderOf_b144 X hr hf
      · refine r_aload_n (x := some 39) (pc := 96) X dX11_holderOf_96 0 rfl ?_
        refine r_aload_n (x := some 39) (pc := 97) X dX11_holderOf_97 0 rfl ?_
        refine r_get (j := 53) (pc := 98) X ce_39 rfl inT11 (by decide) w_1133 rfl dX11_holderOf_98 ?_
        refine r_iload_n (pc := 101) X dX11_holderOf_101 3 rfl ?_
        refine b_iald (pc := 102) X ce_69 dX11_holderOf_102 hf (fun j6 hf => ?_)
        refine r_bipush (v := 8) (pc := 103) X dX11_holderOf_103 (by decide) ?_
        refine r_irem (pc := 105) X dX11_holderOf_105 (by decide) ?_
        refine r_iload_n (pc := 106) X dX11_holderOf_106 2 rfl ?_
        refine b_icmp_ne (tgt := 131) (pc := 107) X dX11_holderOf_107 (by decide) hf (fun hf => ?_) (fun hf => ?_)
        · refine r_aload_n (x := some 39) (pc := 110) X dX11_holderOf_110 0 rfl ?_
          refine r_aload_n (x := some 39) (pc := 111) X dX11_holderOf_111 0 rfl ?_
          refine r_get (j := 53) (pc := 112) X ce_39 rfl inT11 (by decide) w_1133 rfl dX11_holderOf_112 ?_
          refine r_iload_n (pc := 115) X dX11_holderOf_115 3 rfl ?_
          refine b_iald (pc := 116) X ce_69 dX11_holderOf_116 hf (fun j7 hf => ?_)
          refine r_bipush (v := 8) (pc := 117) X dX11_holderOf_117 (by decide) ?_
          refine r_idiv (pc := 119) X dX11_holderOf_119 (by decide) ?_
          refine r_iload_n (pc := 120) X dX11_holderOf_120 1 rfl ?_
          refine bnd hf (fun x8 h8 hf => ?_)
          refine r_callVi (As := [.int ((gA x5.2 69 j7) / 8), .int l1]) (st := [.ref (B + 39)]) (pc := 121) X (c_f_M_isOffIn h8) rfl w_1413 w_1415 w_63 w_84 w_1416 hdV_X11_isOffIn (Rc.s rfl ce_39) (by decide) (by decide) (by decide) (Nat.le_of_ble_eq_true rfl) dX11_holderOf_121 rfl ?_
          refine b_if_ne (tgt := 131) (pc := 124) X dX11_holderOf_124 (by decide) hf (fun hf => ?_) (fun hf => ?_)
          · refine r_iload_n (pc := 127) X dX11_holderOf_127 3 rfl ?_
            refine r_goto (tgt := 135) (pc := 128) X dX11_holderOf_128 (by decide) ?_
            refine b_put (j := 54) (pc := 135) X ce_39 rfl inT11 tyX11 tyX11_ok nmX11 (by decide) w_1134 rfl (tyX11_ok 54 (by decide)) rfl rfl (Nat.le_of_ble_eq_true rfl) (cp_2550 _) rfl rfl dX11_holderOf_135 hf (fun s9 hf => ?_)
            refine r_iinc (v := l3 + (-1)) (lv' := [(0, .ref (B + 39)), (1, .int l1), (2, .int l2), (3, .int (l3 + (-1)))]) (pc := 138) X dX11_holderOf_138 3 rfl rfl (by decide) [1, 2, 3, 0] rfl ?_
            refine r_goto (tgt := 85) (pc := 141) X dX11_holderOf_141 (by decide) ?_
            exact ih hf
          · refine r_aload_n (x := some 39) (pc := 131) X dX11_holderOf_131 0 rfl ?_
            refine r_get (j := 54) (pc := 132) X ce_39 rfl inT11 (by decide) w_1134 rfl dX11_holderOf_132 ?_
            refine b_put (j := 54) (pc := 135) X ce_39 rfl inT11 tyX11 tyX11_ok nmX11 (by decide) w_1134 rfl (tyX11_ok 54 (by decide)) rfl rfl (Nat.le_of_ble_eq_true rfl) (cp_2550 _) rfl rfl dX11_holderOf_135 hf (fun s10 hf => ?_)
            refine r_iinc (v := l3 + (-1)) (lv' := [(0, .ref (B + 39)), (1, .int l1), (2, .int l2), (3, .int (l3 + (-1)))]) (pc := 138) X dX11_holderOf_138 3 rfl rfl (by decide) [1, 2, 3, 0] rfl ?_
            refine r_goto (tgt := 85) (pc := 141) X dX11_holderOf_141 (by decide) ?_
            exact ih hf
        · refine r_aload_n (x := some 39) (pc := 131) X dX11_holderOf_131 0 rfl ?_
          refine r_get (j := 54) (pc := 132) X ce_39 rfl inT11 (by decide) w_1134 rfl dX11_holderOf_132 ?_
          refine b_put (j := 54) (pc := 135) X ce_39 rfl inT11 tyX11 tyX11_ok nmX11 (by decide) w_1134 rfl (tyX11_ok 54 (by decide)) rfl rfl (Nat.le_of_ble_eq_true rfl) (cp_2550 _) rfl rfl dX11_holderOf_135 hf (fun s11 hf => ?_)
          refine r_iinc (v := l3 + (-1)) (lv' := [(0, .ref (B + 39)), (1, .int l1), (2, .int l2), (3, .int (l3 + (-1)))]) (pc := 138) X dX11_holderOf_138 3 rfl rfl (by decide) [1, 2, 3, 0] rfl ?_
          refine r_goto (tgt := 85) (pc := 141) X dX11_holderOf_141 (by decide) ?_
          exact ih hf
set_option maxHeartbeats 1000000 in
theorem c_f_M_holderOf_b37 {F : Nat} {Γ : Ga} {D : DD} {B : Nat} {r : Int32} {s' : St} (X : Cx Γ RX11 cX11_holderOf 6 D B { frames := 1, cells := 0, slots := 0, locals := 22 }) (hr : (Gme Γ).sig.returnType = (some .int)) : ∀ (n : Nat) {s : St} {l1 : Int32} {l2 : Int32} {l3 : Int32} {l4 : Int32}, f_M_holderOf_b37 F n s l1 l2 l3 l4 = some (r, s') → V Γ D B true 6 (QM Γ D B true s' (some (.int r)) 0 0) 0 0 s 37 [(0, .ref (B + 39)), (1, .int l1), (2, .int l2), (3, .int l3), (4, .int l4)] [] := by
  intro n
  induction n with
  | zero => intro s l1 l2 l3 l4 hf; rw [f_M_holderOf_b37] at hf; cases hf
  | succ n ih =>
    intro s l1 l2 l3 l4 hf
    rw [f_M_holderOf_b37] at hf
    refine r_iload (pc := 37) X dX11_holderOf_37 4 rfl ?_
    refine b_if_le (tgt := 76) (pc := 39) X dX11_holderOf_39 (by decide) hf (fun hf => ?_) (fun hf => ?_)
    · refine r_iload_n (pc := 76) X dX11_holderOf_76 3 rfl ?_
      exact e_iret (pc := 77) X hr hf (Nat.le_refl _) (Nat.le_refl _) dX11_holderOf_77
    · refine r_iload_n (pc := 42) X dX11_holderOf_42 2 rfl ?_
      refine r_iload (pc := 43) X dX11_holderOf_43 4 rfl ?_
      refine r_iadd (pc := 45) X dX11_holderOf_45 ?_
      refine r_aload_n (x := some 39) (pc := 46) X dX11_holderOf_46 0 rfl ?_
      refine r_get (j := 36) (pc := 47) X ce_39 rfl inT11 (by decide) w_1116 rfl dX11_holderOf_47 ?_
      refine ifz hf (fun hne hf => ?_)
      refine r_irem (pc := 50) X dX11_holderOf_50 hne ?_
      refine r_istore (pc := 51) (lv' := [(0, .ref (B + 39)), (1, .int l1), (2, .int l2), (3, .int l3), (4, .int l4), (5, .int ((l2 + l4) - (l2 + l4) / (gI s 2532) * (gI s 2532)))]) X dX11_holderOf_51 (by decide) [1, 2, 3, 4, 5, 0] rfl ?_
      refine r_aload_n (x := some 39) (pc := 53) X dX11_holderOf_53 0 rfl ?_
      refine r_iload (pc := 54) X dX11_holderOf_54 5 rfl ?_
      refine r_iload_n (pc := 56) X dX11_holderOf_56 1 rfl ?_
      refine bnd hf (fun x12 h12 hf => ?_)
      refine r_callVi (As := [.int ((l2 + l4) - (l2 + l4) / (gI s 2532) * (gI s 2532)), .int l1]) (st := []) (pc := 57) X (c_f_M_isOffIn h12) rfl w_1413 w_1415 w_63 w_84 w_1416 hdV_X11_isOffIn (Rc.s rfl ce_39) (by decide) (by decide) (by decide) (Nat.le_of_ble_eq_true rfl) dX11_holderOf_57 rfl ?_
      refine b_if_eq (tgt := 67) (pc := 60) X dX11_holderOf_60 (by decide) hf (fun hf => ?_) (fun hf => ?_)
      · refine r_iload (pc := 67) X dX11_holderOf_67 5 rfl ?_
        refine r_istore_n (pc := 69) (lv' := [(0, .ref (B + 39)), (1, .int l1), (2, .int l2), (3, .int ((l2 + l4) - (l2 + l4) / (gI s 2532) * (gI s 2532))), (4, .int l4)]) X dX11_holderOf_69 (by decide) [1, 2, 3, 0, 4] rfl ?_
        refine r_iinc (v := l4 + (-1)) (lv' := [(0, .ref (B + 39)), (1, .int l1), (2, .int l2), (3, .int ((l2 + l4) - (l2 + l4) / (gI s 2532) * (gI s 2532))), (4, .int (l4 + (-1)))]) (pc := 70) X dX11_holderOf_70 4 rfl rfl (by decide) [1, 2, 3, 4, 0] rfl ?_
        refine r_goto (tgt := 37) (pc := 73) X dX11_holderOf_73 (by decide) ?_
        exact ih hf
      · refine r_iload_n (pc := 63) X dX11_holderOf_63 3 rfl ?_
        refine r_goto (tgt := 69) (pc := 64) X dX11_holderOf_64 (by decide) ?_
        refine r_istore_n (pc := 69) (lv' := [(0, .ref (B + 39)), (1, .int l1), (2, .int l2), (3, .int l3), (4, .int l4)]) X dX11_holderOf_69 (by decide) [1, 2, 3, 0, 4] rfl ?_
        refine r_iinc (v := l4 + (-1)) (lv' := [(0, .ref (B + 39)), (1, .int l1), (2, .int l2), (3, .int l3), (4, .int (l4 + (-1)))]) (pc := 70) X dX11_holderOf_70 4 rfl rfl (by decide) [1, 2, 3, 4, 0] rfl ?_
        refine r_goto (tgt := 37) (pc := 73) X dX11_holderOf_73 (by decide) ?_
        exact ih hf
set_option maxHeartbeats 1000000 in
theorem c_f_M_holderOf {F : Nat} {s : St} {p1 : Int32} {r : Int32} {s' : St} (hf : f_M_holderOf F s p1 = some (r, s')) : CC true yX11_holderOf (Cond.code yX11_holderOf cX11_holderOf 6 (some .int)) 1 22 (fun B => [.ref (B + 39), .int p1]) s (fun B => (some (.int r))) s' 0 0 := by
  refine CC.of (fun B => [(0, .ref (B + 39)), (1, .int p1)]) (by decide +kernel) (fun _ => rfl) (fun _ => (by simp [lg_sl, rfB_cat, catI, catL, catR])) (fun Γ D B X hr hin => ?_)
  have X : Cx Γ RX11 cX11_holderOf 6 D B { frames := 1, cells := 0, slots := 0, locals := 22 } := X
  unfold f_M_holderOf at hf
  refine r_aload_n (x := some 39) (pc := 0) X dX11_holderOf_0 0 rfl ?_
  refine r_iload_n (pc := 1) X dX11_holderOf_1 1 rfl ?_
  refine bnd hf (fun x1 h1 hf => ?_)
  refine r_callVi (As := [.int p1]) (st := []) (pc := 2) X (c_f_M_plannedFor h1) rfl w_1409 w_1411 w_62 w_84 w_1412 hdV_X11_plannedFor (Rc.s rfl ce_39) (by decide) (by decide) (by decide) (Nat.le_of_ble_eq_true rfl) dX11_holderOf_2 rfl ?_
  refine r_istore_n (pc := 5) (lv' := [(0, .ref (B + 39)), (1, .int p1), (2, .int x1.1)]) X dX11_holderOf_5 (by decide) [1, 2, 0] rfl ?_
  refine r_aload_n (x := some 39) (pc := 6) X dX11_holderOf_6 0 rfl ?_
  refine r_iconst (v := -1) (pc := 7) X dX11_holderOf_7 (by decide) ?_
  refine b_put (j := 54) (pc := 8) X ce_39 rfl inT11 tyX11 tyX11_ok nmX11 (by decide) w_1134 rfl (tyX11_ok 54 (by decide)) rfl rfl (Nat.le_of_ble_eq_true rfl) (cp_2550 _) rfl rfl dX11_holderOf_8 hf (fun s2 hf => ?_)
  refine r_iload_n (pc := 11) X dX11_holderOf_11 2 rfl ?_
  refine r_iconst (v := -1) (pc := 12) X dX11_holderOf_12 (by decide) ?_
  refine b_icmp_ne (tgt := 18) (pc := 13) X dX11_holderOf_13 (by decide) hf (fun hf => ?_) (fun hf => ?_)
  · refine r_iconst (v := -1) (pc := 16) X dX11_holderOf_16 (by decide) ?_
    exact e_iret (pc := 17) X hr hf (Nat.le_refl _) (Nat.le_refl _) dX11_holderOf_17
  · refine r_aload_n (x := some 39) (pc := 18) X dX11_holderOf_18 0 rfl ?_
    refine r_iload_n (pc := 19) X dX11_holderOf_19 2 rfl ?_
    refine r_iload_n (pc := 20) X dX11_holderOf_20 1 rfl ?_
    refine bnd hf (fun x3 h3 hf => ?_)
    refine r_callVi (As := [.int x1.1, .int p1]) (st := []) (pc := 21) X (c_f_M_isOffIn h3) rfl w_1413 w_1415 w_63 w_84 w_1416 hdV_X11_isOffIn (Rc.s rfl ce_39) (by decide) (by decide) (by decide) (Nat.le_of_ble_eq_true rfl) dX11_holderOf_21 rfl ?_
    refine b_if_eq (tgt := 78) (pc := 24) X dX11_holderOf_24 (by decide) hf (fun hf => ?_) (fun hf => ?_)
    · refine r_aload_n (x := some 39) (pc := 78) X dX11_holderOf_78 0 rfl ?_
      refine r_get (j := 52) (pc := 79) X ce_39 rfl inT11 (by decide) w_1132 rfl dX11_holderOf_79 ?_
      refine r_iconst (v := 1) (pc := 82) X dX11_holderOf_82 (by decide) ?_
      refine r_isub (pc := 83) X dX11_holderOf_83 ?_
      refine r_istore_n (pc := 84) (lv' := [(0, .ref (B + 39)), (1, .int p1), (2, .int x1.1), (3, .int ((gI x3.2 2548) - 1))]) X dX11_holderOf_84 (by decide) [1, 2, 3, 0] rfl ?_
      exact c_f_M_holderOf_b85 X hr _ hf
    · refine r_iconst (v := -1) (pc := 27) X dX11_holderOf_27 (by decide) ?_
      refine r_istore_n (pc := 28) (lv' := [(0, .ref (B + 39)), (1, .int p1), (2, .int x1.1), (3, .int (-1))]) X dX11_holderOf_28 (by decide) [1, 2, 3, 0] rfl ?_
      refine r_aload_n (x := some 39) (pc := 29) X dX11_holderOf_29 0 rfl ?_
      refine r_get (j := 36) (pc := 30) X ce_39 rfl inT11 (by decide) w_1116 rfl dX11_holderOf_30 ?_
      refine r_iconst (v := 1) (pc := 33) X dX11_holderOf_33 (by decide) ?_
      refine r_isub (pc := 34) X dX11_holderOf_34 ?_
      refine r_istore (pc := 35) (lv' := [(0, .ref (B + 39)), (1, .int p1), (2, .int x1.1), (3, .int (-1)), (4, .int ((gI x3.2 2532) - 1))]) X dX11_holderOf_35 (by decide) [1, 2, 3, 4, 0] rfl ?_
      exact c_f_M_holderOf_b37 X hr _ hf
/-! f_M_wakes -/
theorem dX11_wakes_0 : decode cX11_wakes 0 = .ok (.aload_n 0, 1) := by decide +kernel
theorem dX11_wakes_1 : decode cX11_wakes 1 = .ok (.getfield 96, 3) := by decide +kernel
theorem dX11_wakes_4 : decode cX11_wakes 4 = .ok (.iload_n 1, 1) := by decide +kernel
theorem dX11_wakes_5 : decode cX11_wakes 5 = .ok (.dup2, 1) := by decide +kernel
theorem dX11_wakes_6 : decode cX11_wakes 6 = .ok (.iaload, 1) := by decide +kernel
theorem dX11_wakes_7 : decode cX11_wakes 7 = .ok (.iload_n 2, 1) := by decide +kernel
theorem dX11_wakes_8 : decode cX11_wakes 8 = .ok (.iconst 1, 1) := by decide +kernel
theorem dX11_wakes_9 : decode cX11_wakes 9 = .ok (.iadd, 1) := by decide +kernel
theorem dX11_wakes_10 : decode cX11_wakes 10 = .ok (.bipush 12, 2) := by decide +kernel
theorem dX11_wakes_12 : decode cX11_wakes 12 = .ok (.ishl, 1) := by decide +kernel
theorem dX11_wakes_13 : decode cX11_wakes 13 = .ok (.aload_n 0, 1) := by decide +kernel
theorem dX11_wakes_14 : decode cX11_wakes 14 = .ok (.getfield 269, 3) := by decide +kernel
theorem dX11_wakes_17 : decode cX11_wakes 17 = .ok (.bipush 16, 2) := by decide +kernel
theorem dX11_wakes_19 : decode cX11_wakes 19 = .ok (.ishl, 1) := by decide +kernel
theorem dX11_wakes_20 : decode cX11_wakes 20 = .ok (.ior, 1) := by decide +kernel
theorem dX11_wakes_21 : decode cX11_wakes 21 = .ok (.ior, 1) := by decide +kernel
theorem dX11_wakes_22 : decode cX11_wakes 22 = .ok (.iastore, 1) := by decide +kernel
theorem dX11_wakes_23 : decode cX11_wakes 23 = .ok (.return_, 1) := by decide +kernel
def f_M_wakes (F : Nat) (s : St) (p1 : Int32) (p2 : Int32) : Option (St) :=
  (ix 4000 p1).bind fun j1 => ((ix 4000 p1).bind fun j2 => (lt (sA s 68 j2 ((gA s 68 j1) ||| (((p2 + 1) <<< ((12 : Int32) &&& 31)) ||| ((gI s 2526) <<< ((16 : Int32) &&& 31))))) fun s3 => (some s3)))
set_option maxHeartbeats 1000000 in
theorem c_f_M_wakes {F : Nat} {s : St} {p1 : Int32} {p2 : Int32} {s' : St} (hf : f_M_wakes F s p1 p2 = some s') : CC true yX11_wakes (Cond.code yX11_wakes cX11_wakes 3 none) 0 0 (fun B => [.ref (B + 39), .int p1, .int p2]) s (fun B => none) s' 0 0 := by
  refine CC.of (fun B => [(0, .ref (B + 39)), (1, .int p1), (2, .int p2)]) (by decide +kernel) (fun _ => rfl) (fun _ => (by simp [lg_sl, rfB_cat, catI, catL, catR])) (fun Γ D B X hr hin => ?_)
  have X : Cx Γ RX11 cX11_wakes 3 D B { frames := 0, cells := 0, slots := 0, locals := 0 } := X
  unfold f_M_wakes at hf
  refine r_aload_n (x := some 39) (pc := 0) X dX11_wakes_0 0 rfl ?_
  refine r_get (j := 51) (pc := 1) X ce_39 rfl inT11 (by decide) w_1131 rfl dX11_wakes_1 ?_
  refine r_iload_n (pc := 4) X dX11_wakes_4 1 rfl ?_
  refine r_dup2 (pc := 5) X dX11_wakes_5 rfl rfl ?_
  refine b_iald (pc := 6) X ce_68 dX11_wakes_6 hf (fun j1 hf => ?_)
  refine r_iload_n (pc := 7) X dX11_wakes_7 2 rfl ?_
  refine r_iconst (v := 1) (pc := 8) X dX11_wakes_8 (by decide) ?_
  refine r_iadd (pc := 9) X dX11_wakes_9 ?_
  refine r_bipush (v := 12) (pc := 10) X dX11_wakes_10 (by decide) ?_
  refine r_ishl (pc := 12) X dX11_wakes_12 ?_
  refine r_aload_n (x := some 39) (pc := 13) X dX11_wakes_13 0 rfl ?_
  refine r_get (j := 30) (pc := 14) X ce_39 rfl inT11 (by decide) w_1110 rfl dX11_wakes_14 ?_
  refine r_bipush (v := 16) (pc := 17) X dX11_wakes_17 (by decide) ?_
  refine r_ishl (pc := 19) X dX11_wakes_19 ?_
  refine r_ior (pc := 20) X dX11_wakes_20 ?_
  refine r_ior (pc := 21) X dX11_wakes_21 ?_
  refine b_iast (pc := 22) X ce_68 (fun _ => ca_68 _ _) dX11_wakes_22 hf (fun j2 s3 hf => ?_)
  exact e_vret (pc := 23) X hr hf (Nat.le_refl _) (Nat.le_refl _) dX11_wakes_23
/-! f_M_wokenBy -/
theorem dX11_wokenBy_0 : decode cX11_wokenBy 0 = .ok (.aload_n 0, 1) := by decide +kernel
theorem dX11_wokenBy_1 : decode cX11_wokenBy 1 = .ok (.getfield 96, 3) := by decide +kernel
theorem dX11_wokenBy_4 : decode cX11_wokenBy 4 = .ok (.iload_n 1, 1) := by decide +kernel
theorem dX11_wokenBy_5 : decode cX11_wokenBy 5 = .ok (.iaload, 1) := by decide +kernel
theorem dX11_wokenBy_6 : decode cX11_wokenBy 6 = .ok (.bipush 12, 2) := by decide +kernel
theorem dX11_wokenBy_8 : decode cX11_wokenBy 8 = .ok (.ishr, 1) := by decide +kernel
theorem dX11_wokenBy_9 : decode cX11_wokenBy 9 = .ok (.bipush 15, 2) := by decide +kernel
theorem dX11_wokenBy_11 : decode cX11_wokenBy 11 = .ok (.iand, 1) := by decide +kernel
theorem dX11_wokenBy_12 : decode cX11_wokenBy 12 = .ok (.iconst 1, 1) := by decide +kernel
theorem dX11_wokenBy_13 : decode cX11_wokenBy 13 = .ok (.isub, 1) := by decide +kernel
theorem dX11_wokenBy_14 : decode cX11_wokenBy 14 = .ok (.ireturn, 1) := by decide +kernel
def f_M_wokenBy (F : Nat) (s : St) (p1 : Int32) : Option (Int32 × St) :=
  (ix 4000 p1).bind fun j1 => (some (((((gA s 68 j1) >>> ((12 : Int32) &&& 31)) &&& 15) - 1), s))
set_option maxHeartbeats 1000000 in
theorem c_f_M_wokenBy {F : Nat} {s : St} {p1 : Int32} {r : Int32} {s' : St} (hf : f_M_wokenBy F s p1 = some (r, s')) : CC true yX11_wokenBy (Cond.code yX11_wokenBy cX11_wokenBy 2 (some .int)) 0 0 (fun B => [.ref (B + 39), .int p1]) s (fun B => (some (.int r))) s' 0 0 := by
  refine CC.of (fun B => [(0, .ref (B + 39)), (1, .int p1)]) (by decide +kernel) (fun _ => rfl) (fun _ => (by simp [lg_sl, rfB_cat, catI, catL, catR])) (fun Γ D B X hr hin => ?_)
  have X : Cx Γ RX11 cX11_wokenBy 2 D B { frames := 0, cells := 0, slots := 0, locals := 0 } := X
  unfold f_M_wokenBy at hf
  refine r_aload_n (x := some 39) (pc := 0) X dX11_wokenBy_0 0 rfl ?_
  refine r_get (j := 51) (pc := 1) X ce_39 rfl inT11 (by decide) w_1131 rfl dX11_wokenBy_1 ?_
  refine r_iload_n (pc := 4) X dX11_wokenBy_4 1 rfl ?_
  refine b_iald (pc := 5) X ce_68 dX11_wokenBy_5 hf (fun j1 hf => ?_)
  refine r_bipush (v := 12) (pc := 6) X dX11_wokenBy_6 (by decide) ?_
  refine r_ishr (pc := 8) X dX11_wokenBy_8 ?_
  refine r_bipush (v := 15) (pc := 9) X dX11_wokenBy_9 (by decide) ?_
  refine r_iand (pc := 11) X dX11_wokenBy_11 ?_
  refine r_iconst (v := 1) (pc := 12) X dX11_wokenBy_12 (by decide) ?_
  refine r_isub (pc := 13) X dX11_wokenBy_13 ?_
  exact e_iret (pc := 14) X hr hf (Nat.le_refl _) (Nat.le_refl _) dX11_wokenBy_14
/-! f_M_begins -/
theorem dX11_begins_0 : decode cX11_begins 0 = .ok (.aload_n 0, 1) := by decide +kernel
theorem dX11_begins_1 : decode cX11_begins 1 = .ok (.iload_n 1, 1) := by decide +kernel
theorem dX11_begins_2 : decode cX11_begins 2 = .ok (.invokevirtual 297, 3) := by decide +kernel
theorem dX11_begins_5 : decode cX11_begins 5 = .ok (.istore_n 2, 1) := by decide +kernel
theorem dX11_begins_6 : decode cX11_begins 6 = .ok (.aload_n 0, 1) := by decide +kernel
theorem dX11_begins_7 : decode cX11_begins 7 = .ok (.getfield 66, 3) := by decide +kernel
theorem dX11_begins_10 : decode cX11_begins 10 = .ok (.iload_n 1, 1) := by decide +kernel
theorem dX11_begins_11 : decode cX11_begins 11 = .ok (.iload_n 2, 1) := by decide +kernel
theorem dX11_begins_12 : decode cX11_begins 12 = .ok (.iastore, 1) := by decide +kernel
theorem dX11_begins_13 : decode cX11_begins 13 = .ok (.aload_n 0, 1) := by decide +kernel
theorem dX11_begins_14 : decode cX11_begins 14 = .ok (.getfield 284, 3) := by decide +kernel
theorem dX11_begins_17 : decode cX11_begins 17 = .ok (.iconst (-1), 1) := by decide +kernel
theorem dX11_begins_18 : decode cX11_begins 18 = .ok (.if_icmp .eq 46, 3) := by decide +kernel
theorem dX11_begins_21 : decode cX11_begins 21 = .ok (.aload_n 0, 1) := by decide +kernel
theorem dX11_begins_22 : decode cX11_begins 22 = .ok (.dup, 1) := by decide +kernel
theorem dX11_begins_23 : decode cX11_begins 23 = .ok (.getfield 291, 3) := by decide +kernel
theorem dX11_begins_26 : decode cX11_begins 26 = .ok (.iconst 1, 1) := by decide +kernel
theorem dX11_begins_27 : decode cX11_begins 27 = .ok (.isub, 1) := by decide +kernel
theorem dX11_begins_28 : decode cX11_begins 28 = .ok (.putfield 291, 3) := by decide +kernel
theorem dX11_begins_31 : decode cX11_begins 31 = .ok (.aload_n 0, 1) := by decide +kernel
theorem dX11_begins_32 : decode cX11_begins 32 = .ok (.getfield 284, 3) := by decide +kernel
theorem dX11_begins_35 : decode cX11_begins 35 = .ok (.istore_n 3, 1) := by decide +kernel
theorem dX11_begins_36 : decode cX11_begins 36 = .ok (.iload_n 3, 1) := by decide +kernel
theorem dX11_begins_37 : decode cX11_begins 37 = .ok (.aload_n 0, 1) := by decide +kernel
theorem dX11_begins_38 : decode cX11_begins 38 = .ok (.getfield 291, 3) := by decide +kernel
theorem dX11_begins_41 : decode cX11_begins 41 = .ok (.if_icmp .ge 23, 3) := by decide +kernel
theorem dX11_begins_44 : decode cX11_begins 44 = .ok (.aload_n 0, 1) := by decide +kernel
theorem dX11_begins_45 : decode cX11_begins 45 = .ok (.getfield 99, 3) := by decide +kernel
theorem dX11_begins_48 : decode cX11_begins 48 = .ok (.iload_n 3, 1) := by decide +kernel
theorem dX11_begins_49 : decode cX11_begins 49 = .ok (.aload_n 0, 1) := by decide +kernel
theorem dX11_begins_50 : decode cX11_begins 50 = .ok (.getfield 99, 3) := by decide +kernel
theorem dX11_begins_53 : decode cX11_begins 53 = .ok (.iload_n 3, 1) := by decide +kernel
theorem dX11_begins_54 : decode cX11_begins 54 = .ok (.iconst 1, 1) := by decide +kernel
theorem dX11_begins_55 : decode cX11_begins 55 = .ok (.iadd, 1) := by decide +kernel
theorem dX11_begins_56 : decode cX11_begins 56 = .ok (.iaload, 1) := by decide +kernel
theorem dX11_begins_57 : decode cX11_begins 57 = .ok (.iastore, 1) := by decide +kernel
theorem dX11_begins_58 : decode cX11_begins 58 = .ok (.iinc 3 1, 3) := by decide +kernel
theorem dX11_begins_61 : decode cX11_begins 61 = .ok (.goto (-25), 3) := by decide +kernel
theorem dX11_begins_64 : decode cX11_begins 64 = .ok (.iconst 0, 1) := by decide +kernel
theorem dX11_begins_65 : decode cX11_begins 65 = .ok (.istore_n 3, 1) := by decide +kernel
theorem dX11_begins_66 : decode cX11_begins 66 = .ok (.iload_n 3, 1) := by decide +kernel
theorem dX11_begins_67 : decode cX11_begins 67 = .ok (.aload_n 0, 1) := by decide +kernel
theorem dX11_begins_68 : decode cX11_begins 68 = .ok (.getfield 300, 3) := by decide +kernel
theorem dX11_begins_71 : decode cX11_begins 71 = .ok (.if_icmp .ge 29, 3) := by decide +kernel
theorem dX11_begins_74 : decode cX11_begins 74 = .ok (.iload_n 2, 1) := by decide +kernel
theorem dX11_begins_75 : decode cX11_begins 75 = .ok (.iconst (-1), 1) := by decide +kernel
theorem dX11_begins_76 : decode cX11_begins 76 = .ok (.if_icmp .eq 24, 3) := by decide +kernel
theorem dX11_begins_79 : decode cX11_begins 79 = .ok (.aload_n 0, 1) := by decide +kernel
theorem dX11_begins_80 : decode cX11_begins 80 = .ok (.iload_n 3, 1) := by decide +kernel
theorem dX11_begins_81 : decode cX11_begins 81 = .ok (.invokevirtual 303, 3) := by decide +kernel
theorem dX11_begins_84 : decode cX11_begins 84 = .ok (.iconst (-1), 1) := by decide +kernel
theorem dX11_begins_85 : decode cX11_begins 85 = .ok (.if_icmp .ne 9, 3) := by decide +kernel
theorem dX11_begins_88 : decode cX11_begins 88 = .ok (.aload_n 0, 1) := by decide +kernel
theorem dX11_begins_89 : decode cX11_begins 89 = .ok (.iload_n 3, 1) := by decide +kernel
theorem dX11_begins_90 : decode cX11_begins 90 = .ok (.iload_n 2, 1) := by decide +kernel
theorem dX11_begins_91 : decode cX11_begins 91 = .ok (.invokevirtual 306, 3) := by decide +kernel
theorem dX11_begins_94 : decode cX11_begins 94 = .ok (.iinc 3 1, 3) := by decide +kernel
theorem dX11_begins_97 : decode cX11_begins 97 = .ok (.goto (-31), 3) := by decide +kernel
theorem dX11_begins_100 : decode cX11_begins 100 = .ok (.return_, 1) := by decide +kernel
def f_M_begins_b66 (F : Nat) : Nat → St → Int32 → Int32 → Option (St)
  | 0, _, _, _ => none
  | n + 1, s, l2, l3 =>
    if (gI s 2546) ≤ l3 then
      (some s)
    else
      (if l2 = (-1) then
        (some s)
      else
        ((f_M_wokenBy F s l3).bind fun x4 => (if x4.1 = (-1) then
          ((f_M_wakes F x4.2 l3 l2).bind fun x5 => (f_M_begins_b66 F n x5 l2 (l3 + 1)))
        else
          (f_M_begins_b66 F n x4.2 l2 (l3 + 1)))))
def f_M_begins_b36 (F : Nat) : Nat → St → Int32 → Int32 → Option (St)
  | 0, _, _, _ => none
  | n + 1, s, l2, l3 =>
    if (gI s 2548) ≤ l3 then
      (f_M_begins_b66 F F s l2 0)
    else
      ((ix 4000 (l3 + 1)).bind fun j7 => ((ix 4000 l3).bind fun j8 => (lt (sA s 69 j8 (gA s 69 j7)) fun s9 => (f_M_begins_b36 F n s9 l2 (l3 + 1)))))
def f_M_begins (F : Nat) (s : St) (p1 : Int32) : Option (St) :=
  (f_M_holderOf F s p1).bind fun x1 => ((ix 126 p1).bind fun j2 => (lt (sA x1.2 58 j2 x1.1) fun s3 => (if (gI s3 2550) = (-1) then
    (f_M_begins_b66 F F s3 x1.1 0)
  else
    (lt (sI s3 2548 ((gI s3 2548) - 1)) fun s6 => (f_M_begins_b36 F F s6 x1.1 (gI s6 2550))))))
set_option maxHeartbeats 1000000 in
theorem c_f_M_begins_b66 {F : Nat} {Γ : Ga} {D : DD} {B : Nat} {s' : St} (X : Cx Γ RX11 cX11_begins 4 D B { frames := 2, cells := 0, slots := 0, locals := 47 }) (hr : (Gme Γ).sig.returnType = none) : ∀ (n : Nat) {s : St} {l2 : Int32} {l3 : Int32}, f_M_begins_b66 F n s l2 l3 = some s' → V Γ D B true 4 (QM Γ D B true s' none 0 0) 0 0 s 66 [(0, .ref (B + 39)), (2, .int l2), (3, .int l3)] [] := by
  intro n
  induction n with
  | zero => intro s l2 l3 hf; rw [f_M_begins_b66] at hf; cases hf
  | succ n ih =>
    intro s l2 l3 hf
    rw [f_M_begins_b66] at hf
    refine r_iload_n (pc := 66) X dX11_begins_66 2 rfl ?_
    refine r_aload_n (x := some 39) (pc := 67) X dX11_begins_67 0 rfl ?_
    refine r_get (j := 50) (pc := 68) X ce_39 rfl inT11 (by decide) w_1130 rfl dX11_begins_68 ?_
    refine b_icmp_ge (tgt := 100) (pc := 71) X dX11_begins_71 (by decide) hf (fun hf => ?_) (fun hf => ?_)
    · exact e_vret (pc := 100) X hr hf (Nat.le_refl _) (Nat.le_refl _) dX11_begins_100
    · refine r_iload_n (pc := 74) X dX11_begins_74 1 rfl ?_
      refine r_iconst (v := -1) (pc := 75) X dX11_begins_75 (by decide) ?_
      refine b_icmp_eq (tgt := 100) (pc := 76) X dX11_begins_76 (by decide) hf (fun hf => ?_) (fun hf => ?_)
      · exact e_vret (pc := 100) X hr hf (Nat.le_refl _) (Nat.le_refl _) dX11_begins_100
      · refine r_aload_n (x := some 39) (pc := 79) X dX11_begins_79 0 rfl ?_
        refine r_iload_n (pc := 80) X dX11_begins_80 2 rfl ?_
        refine bnd hf (fun x4 h4 hf => ?_)
        refine r_callVi (As := [.int l3]) (st := []) (pc := 81) X (c_f_M_wokenBy h4) rfl w_1420 w_1422 w_64 w_84 w_1423 hdV_X11_wokenBy (Rc.s rfl ce_39) (by decide) (by decide) (by decide) (Nat.le_of_ble_eq_true rfl) dX11_begins_81 rfl ?_
        refine r_iconst (v := -1) (pc := 84) X dX11_begins_84 (by decide) ?_
        refine b_icmp_ne (tgt := 94) (pc := 85) X dX11_begins_85 (by decide) hf (fun hf => ?_) (fun hf => ?_)
        · refine r_aload_n (x := some 39) (pc := 88) X dX11_begins_88 0 rfl ?_
          refine r_iload_n (pc := 89) X dX11_begins_89 2 rfl ?_
          refine r_iload_n (pc := 90) X dX11_begins_90 1 rfl ?_
          refine bnd hf (fun x5 h5 hf => ?_)
          refine r_callVv (As := [.int l3, .int l2]) (st := []) (pc := 91) X (c_f_M_wakes h5) rfl w_1424 w_1426 w_65 w_84 w_1427 hdV_X11_wakes (Rc.s rfl ce_39) (by decide) (by decide) (by decide) (Nat.le_of_ble_eq_true rfl) dX11_begins_91 rfl ?_
          refine r_iinc (v := l3 + 1) (lv' := [(0, .ref (B + 39)), (2, .int l2), (3, .int (l3 + 1))]) (pc := 94) X dX11_begins_94 2 rfl rfl (by decide) [1, 2, 0] rfl ?_
          refine r_goto (tgt := 66) (pc := 97) X dX11_begins_97 (by decide) ?_
          exact ih hf
        · refine r_iinc (v := l3 + 1) (lv' := [(0, .ref (B + 39)), (2, .int l2), (3, .int (l3 + 1))]) (pc := 94) X dX11_begins_94 2 rfl rfl (by decide) [1, 2, 0] rfl ?_
          refine r_goto (tgt := 66) (pc := 97) X dX11_begins_97 (by decide) ?_
          exact ih hf
set_option maxHeartbeats 1000000 in
theorem c_f_M_begins_b36 {F : Nat} {Γ : Ga} {D : DD} {B : Nat} {s' : St} (X : Cx Γ RX11 cX11_begins 4 D B { frames := 2, cells := 0, slots := 0, locals := 47 }) (hr : (Gme Γ).sig.returnType = none) : ∀ (n : Nat) {s : St} {l2 : Int32} {l3 : Int32}, f_M_begins_b36 F n s l2 l3 = some s' → V Γ D B true 4 (QM Γ D B true s' none 0 0) 0 0 s 36 [(0, .ref (B + 39)), (2, .int l2), (3, .int l3)] [] := by
  intro n
  induction n with
  | zero => intro s l2 l3 hf; rw [f_M_begins_b36] at hf; cases hf
  | succ n ih =>
    intro s l2 l3 hf
    rw [f_M_begins_b36] at hf
    refine r_iload_n (pc := 36) X dX11_begins_36 2 rfl ?_
    refine r_aload_n (x := some 39) (pc := 37) X dX11_begins_37 0 rfl ?_
    refine r_get (j := 52) (pc := 38) X ce_39 rfl inT11 (by decide) w_1132 rfl dX11_begins_38 ?_
    refine b_icmp_ge (tgt := 64) (pc := 41) X dX11_begins_41 (by decide) hf (fun hf => ?_) (fun hf => ?_)
    · refine r_iconst (v := 0) (pc := 64) X dX11_begins_64 (by decide) ?_
      refine r_istore_n (pc := 65) (lv' := [(0, .ref (B + 39)), (2, .int l2), (3, .int 0)]) X dX11_begins_65 (by decide) [1, 2, 0] rfl ?_
      exact c_f_M_begins_b66 X hr _ hf
    · refine r_aload_n (x := some 39) (pc := 44) X dX11_begins_44 0 rfl ?_
      refine r_get (j := 53) (pc := 45) X ce_39 rfl inT11 (by decide) w_1133 rfl dX11_begins_45 ?_
      refine r_iload_n (pc := 48) X dX11_begins_48 2 rfl ?_
      refine r_aload_n (x := some 39) (pc := 49) X dX11_begins_49 0 rfl ?_
      refine r_get (j := 53) (pc := 50) X ce_39 rfl inT11 (by decide) w_1133 rfl dX11_begins_50 ?_
      refine r_iload_n (pc := 53) X dX11_begins_53 2 rfl ?_
      refine r_iconst (v := 1) (pc := 54) X dX11_begins_54 (by decide) ?_
      refine r_iadd (pc := 55) X dX11_begins_55 ?_
      refine b_iald (pc := 56) X ce_69 dX11_begins_56 hf (fun j7 hf => ?_)
      refine b_iast (pc := 57) X ce_69 (fun _ => ca_69 _ _) dX11_begins_57 hf (fun j8 s9 hf => ?_)
      refine r_iinc (v := l3 + 1) (lv' := [(0, .ref (B + 39)), (2, .int l2), (3, .int (l3 + 1))]) (pc := 58) X dX11_begins_58 2 rfl rfl (by decide) [1, 2, 0] rfl ?_
      refine r_goto (tgt := 36) (pc := 61) X dX11_begins_61 (by decide) ?_
      exact ih hf
set_option maxHeartbeats 1000000 in
theorem c_f_M_begins {F : Nat} {s : St} {p1 : Int32} {s' : St} (hf : f_M_begins F s p1 = some s') : CC true yX11_begins (Cond.code yX11_begins cX11_begins 4 none) 2 47 (fun B => [.ref (B + 39), .int p1]) s (fun B => none) s' 0 0 := by
  refine CC.of (fun B => [(0, .ref (B + 39)), (1, .int p1)]) (by decide +kernel) (fun _ => rfl) (fun _ => (by simp [lg_sl, rfB_cat, catI, catL, catR])) (fun Γ D B X hr hin => ?_)
  have X : Cx Γ RX11 cX11_begins 4 D B { frames := 2, cells := 0, slots := 0, locals := 47 } := X
  unfold f_M_begins at hf
  refine r_aload_n (x := some 39) (pc := 0) X dX11_begins_0 0 rfl ?_
  refine r_iload_n (pc := 1) X dX11_begins_1 1 rfl ?_
  refine bnd hf (fun x1 h1 hf => ?_)
  refine r_callVi (As := [.int p1]) (st := []) (pc := 2) X (c_f_M_holderOf h1) rfl w_1405 w_1407 w_61 w_84 w_1408 hdV_X11_holderOf (Rc.s rfl ce_39) (by decide) (by decide) (by decide) (Nat.le_of_ble_eq_true rfl) dX11_begins_2 rfl ?_
  refine r_istore_n (pc := 5) (lv' := [(0, .ref (B + 39)), (1, .int p1), (2, .int x1.1)]) X dX11_begins_5 (by decide) [1, 2, 0] rfl ?_
  refine r_aload_n (x := some 39) (pc := 6) X dX11_begins_6 0 rfl ?_
  refine r_get (j := 39) (pc := 7) X ce_39 rfl inT11 (by decide) w_1119 rfl dX11_begins_7 ?_
  refine r_iload_n (pc := 10) X dX11_begins_10 1 rfl ?_
  refine r_iload_n (pc := 11) X dX11_begins_11 2 rfl ?_
  refine b_iast (pc := 12) X ce_58 (fun _ => ca_58 _ _) dX11_begins_12 hf (fun j2 s3 hf => ?_)
  refine r_aload_n (x := some 39) (pc := 13) X dX11_begins_13 0 rfl ?_
  refine r_get (j := 54) (pc := 14) X ce_39 rfl inT11 (by decide) w_1134 rfl dX11_begins_14 ?_
  refine r_iconst (v := -1) (pc := 17) X dX11_begins_17 (by decide) ?_
  refine b_icmp_eq (tgt := 64) (pc := 18) X dX11_begins_18 (by decide) hf (fun hf => ?_) (fun hf => ?_)
  · refine r_iconst (v := 0) (pc := 64) X dX11_begins_64 (by decide) ?_
    refine r_istore_n (pc := 65) (lv' := [(0, .ref (B + 39)), (2, .int x1.1), (3, .int 0)]) X dX11_begins_65 (by decide) [1, 3, 0] rfl ?_
    exact c_f_M_begins_b66 X hr _ hf
  · refine r_aload_n (x := some 39) (pc := 21) X dX11_begins_21 0 rfl ?_
    refine r_dup (pc := 22) X dX11_begins_22 rfl ?_
    refine r_get (j := 52) (pc := 23) X ce_39 rfl inT11 (by decide) w_1132 rfl dX11_begins_23 ?_
    refine r_iconst (v := 1) (pc := 26) X dX11_begins_26 (by decide) ?_
    refine r_isub (pc := 27) X dX11_begins_27 ?_
    refine b_put (j := 52) (pc := 28) X ce_39 rfl inT11 tyX11 tyX11_ok nmX11 (by decide) w_1132 rfl (tyX11_ok 52 (by decide)) rfl rfl (Nat.le_of_ble_eq_true rfl) (cp_2548 _) rfl rfl dX11_begins_28 hf (fun s6 hf => ?_)
    refine r_aload_n (x := some 39) (pc := 31) X dX11_begins_31 0 rfl ?_
    refine r_get (j := 54) (pc := 32) X ce_39 rfl inT11 (by decide) w_1134 rfl dX11_begins_32 ?_
    refine r_istore_n (pc := 35) (lv' := [(0, .ref (B + 39)), (2, .int x1.1), (3, .int (gI s6 2550))]) X dX11_begins_35 (by decide) [1, 3, 0] rfl ?_
    exact c_f_M_begins_b36 X hr _ hf
/-! f_M_isSilent -/
theorem dX11_isSilent_0 : decode cX11_isSilent 0 = .ok (.iconst 0, 1) := by decide +kernel
theorem dX11_isSilent_1 : decode cX11_isSilent 1 = .ok (.istore_n 2, 1) := by decide +kernel
theorem dX11_isSilent_2 : decode cX11_isSilent 2 = .ok (.iconst 5, 1) := by decide +kernel
theorem dX11_isSilent_3 : decode cX11_isSilent 3 = .ok (.iload_n 1, 1) := by decide +kernel
theorem dX11_isSilent_4 : decode cX11_isSilent 4 = .ok (.imul, 1) := by decide +kernel
theorem dX11_isSilent_5 : decode cX11_isSilent 5 = .ok (.istore_n 3, 1) := by decide +kernel
theorem dX11_isSilent_6 : decode cX11_isSilent 6 = .ok (.iload_n 3, 1) := by decide +kernel
theorem dX11_isSilent_7 : decode cX11_isSilent 7 = .ok (.iconst 5, 1) := by decide +kernel
theorem dX11_isSilent_8 : decode cX11_isSilent 8 = .ok (.iload_n 1, 1) := by decide +kernel
theorem dX11_isSilent_9 : decode cX11_isSilent 9 = .ok (.imul, 1) := by decide +kernel
theorem dX11_isSilent_10 : decode cX11_isSilent 10 = .ok (.aload_n 0, 1) := by decide +kernel
theorem dX11_isSilent_11 : decode cX11_isSilent 11 = .ok (.getfield 87, 3) := by decide +kernel
theorem dX11_isSilent_14 : decode cX11_isSilent 14 = .ok (.iload_n 1, 1) := by decide +kernel
theorem dX11_isSilent_15 : decode cX11_isSilent 15 = .ok (.iaload, 1) := by decide +kernel
theorem dX11_isSilent_16 : decode cX11_isSilent 16 = .ok (.iadd, 1) := by decide +kernel
theorem dX11_isSilent_17 : decode cX11_isSilent 17 = .ok (.if_icmp .ge 41, 3) := by decide +kernel
theorem dX11_isSilent_20 : decode cX11_isSilent 20 = .ok (.iload_n 2, 1) := by decide +kernel
theorem dX11_isSilent_21 : decode cX11_isSilent 21 = .ok (.ifCond .ne 25, 3) := by decide +kernel
theorem dX11_isSilent_24 : decode cX11_isSilent 24 = .ok (.aload_n 0, 1) := by decide +kernel
theorem dX11_isSilent_25 : decode cX11_isSilent 25 = .ok (.getfield 269, 3) := by decide +kernel
theorem dX11_isSilent_28 : decode cX11_isSilent 28 = .ok (.aload_n 0, 1) := by decide +kernel
theorem dX11_isSilent_29 : decode cX11_isSilent 29 = .ok (.getfield 90, 3) := by decide +kernel
theorem dX11_isSilent_32 : decode cX11_isSilent 32 = .ok (.iload_n 3, 1) := by decide +kernel
theorem dX11_isSilent_33 : decode cX11_isSilent 33 = .ok (.iaload, 1) := by decide +kernel
theorem dX11_isSilent_34 : decode cX11_isSilent 34 = .ok (.aload_n 0, 1) := by decide +kernel
theorem dX11_isSilent_35 : decode cX11_isSilent 35 = .ok (.getfield 93, 3) := by decide +kernel
theorem dX11_isSilent_38 : decode cX11_isSilent 38 = .ok (.iload_n 3, 1) := by decide +kernel
theorem dX11_isSilent_39 : decode cX11_isSilent 39 = .ok (.iaload, 1) := by decide +kernel
theorem dX11_isSilent_40 : decode cX11_isSilent 40 = .ok (.invokestatic 109, 3) := by decide +kernel
theorem dX11_isSilent_43 : decode cX11_isSilent 43 = .ok (.ifCond .eq 7, 3) := by decide +kernel
theorem dX11_isSilent_46 : decode cX11_isSilent 46 = .ok (.iconst 1, 1) := by decide +kernel
theorem dX11_isSilent_47 : decode cX11_isSilent 47 = .ok (.goto 4, 3) := by decide +kernel
theorem dX11_isSilent_50 : decode cX11_isSilent 50 = .ok (.iconst 0, 1) := by decide +kernel
theorem dX11_isSilent_51 : decode cX11_isSilent 51 = .ok (.istore_n 2, 1) := by decide +kernel
theorem dX11_isSilent_52 : decode cX11_isSilent 52 = .ok (.iinc 3 1, 3) := by decide +kernel
theorem dX11_isSilent_55 : decode cX11_isSilent 55 = .ok (.goto (-49), 3) := by decide +kernel
theorem dX11_isSilent_58 : decode cX11_isSilent 58 = .ok (.iload_n 2, 1) := by decide +kernel
theorem dX11_isSilent_59 : decode cX11_isSilent 59 = .ok (.ireturn, 1) := by decide +kernel
def f_M_isSilent_b6 (F : Nat) : Nat → St → Int32 → Int32 → Int32 → Option (Int32 × St)
  | 0, _, _, _, _ => none
  | n + 1, s, l1, l2, l3 =>
    (ix 4 l1).bind fun j1 => (if (((5 : Int32) * l1) + (gA s 65 j1)) ≤ l3 then
      (if l2 = 0 ∨ l2 = 1 then (some (l2, s)) else none)
    else
      (if l2 = 0 then
        ((ix 20 l3).bind fun j2 => ((ix 20 l3).bind fun j3 => ((f_M_isIn F s (gI s 2526) (gA s 66 j2) (gA s 67 j3)).bind fun x4 => (if x4.1 = 0 then
          (f_M_isSilent_b6 F n x4.2 l1 0 (l3 + 1))
        else
          (f_M_isSilent_b6 F n x4.2 l1 1 (l3 + 1))))))
      else
        (f_M_isSilent_b6 F n s l1 1 (l3 + 1))))
def f_M_isSilent (F : Nat) (s : St) (p1 : Int32) : Option (Int32 × St) :=
  f_M_isSilent_b6 F F s p1 0 ((5 : Int32) * p1)
set_option maxHeartbeats 1000000 in
theorem c_f_M_isSilent_b6 {F : Nat} {Γ : Ga} {D : DD} {B : Nat} {r : Int32} {s' : St} (X : Cx Γ RX11 cX11_isSilent 4 D B { frames := 1, cells := 0, slots := 0, locals := 22 }) (hr : (Gme Γ).sig.returnType = (some .boolean)) : ∀ (n : Nat) {s : St} {l1 : Int32} {l2 : Int32} {l3 : Int32}, f_M_isSilent_b6 F n s l1 l2 l3 = some (r, s') → V Γ D B true 4 (QM Γ D B true s' (some (.int r)) 0 0) 0 0 s 6 [(0, .ref (B + 39)), (1, .int l1), (2, .int l2), (3, .int l3)] [] := by
  intro n
  induction n with
  | zero => intro s l1 l2 l3 hf; rw [f_M_isSilent_b6] at hf; cases hf
  | succ n ih =>
    intro s l1 l2 l3 hf
    rw [f_M_isSilent_b6] at hf
    refine r_iload_n (pc := 6) X dX11_isSilent_6 3 rfl ?_
    refine r_iconst (v := 5) (pc := 7) X dX11_isSilent_7 (by decide) ?_
    refine r_iload_n (pc := 8) X dX11_isSilent_8 1 rfl ?_
    refine r_imul (pc := 9) X dX11_isSilent_9 ?_
    refine r_aload_n (x := some 39) (pc := 10) X dX11_isSilent_10 0 rfl ?_
    refine r_get (j := 47) (pc := 11) X ce_39 rfl inT11 (by decide) w_1127 rfl dX11_isSilent_11 ?_
    refine r_iload_n (pc := 14) X dX11_isSilent_14 1 rfl ?_
    refine b_iald (pc := 15) X ce_65 dX11_isSilent_15 hf (fun j1 hf => ?_)
    refine r_iadd (pc := 16) X dX11_isSilent_16 ?_
    refine b_icmp_ge (tgt := 58) (pc := 17) X dX11_isSilent_17 (by decide) hf (fun hf => ?_) (fun hf => ?_)
    · refine r_iload_n (pc := 58) X dX11_isSilent_58 2 rfl ?_
      refine ifo hf (fun hx hf => ?_)
      exact e_zret (pc := 59) X hr hx hf (Nat.le_refl _) (Nat.le_refl _) dX11_isSilent_59
    · refine r_iload_n (pc := 20) X dX11_isSilent_20 2 rfl ?_
      refine b_if_ne (tgt := 46) (pc := 21) X dX11_isSilent_21 (by decide) hf (fun hf => ?_) (fun hf => ?_)
      · refine r_aload_n (x := some 39) (pc := 24) X dX11_isSilent_24 0 rfl ?_
        refine r_get (j := 30) (pc := 25) X ce_39 rfl inT11 (by decide) w_1110 rfl dX11_isSilent_25 ?_
        refine r_aload_n (x := some 39) (pc := 28) X dX11_isSilent_28 0 rfl ?_
        refine r_get (j := 48) (pc := 29) X ce_39 rfl inT11 (by decide) w_1128 rfl dX11_isSilent_29 ?_
        refine r_iload_n (pc := 32) X dX11_isSilent_32 3 rfl ?_
        refine b_iald (pc := 33) X ce_66 dX11_isSilent_33 hf (fun j2 hf => ?_)
        refine r_aload_n (x := some 39) (pc := 34) X dX11_isSilent_34 0 rfl ?_
        refine r_get (j := 49) (pc := 35) X ce_39 rfl inT11 (by decide) w_1129 rfl dX11_isSilent_35 ?_
        refine r_iload_n (pc := 38) X dX11_isSilent_38 3 rfl ?_
        refine b_iald (pc := 39) X ce_67 dX11_isSilent_39 hf (fun j3 hf => ?_)
        refine bnd hf (fun x4 h4 hf => ?_)
        refine r_callSi (As := [.int (gI s 2526), .int (gA s 66 j2), .int (gA s 67 j3)]) (st := []) (pc := 40) X (c_f_M_isIn h4) rfl w_1257 w_1258 w_84 w_1259 hdS_X11_isIn (by decide) (by decide) (by decide) (Nat.le_of_ble_eq_true rfl) dX11_isSilent_40 rfl ?_
        refine b_if_eq (tgt := 50) (pc := 43) X dX11_isSilent_43 (by decide) hf (fun hf => ?_) (fun hf => ?_)
        · refine r_iconst (v := 0) (pc := 50) X dX11_isSilent_50 (by decide) ?_
          refine r_istore_n (pc := 51) (lv' := [(0, .ref (B + 39)), (1, .int l1), (2, .int 0), (3, .int l3)]) X dX11_isSilent_51 (by decide) [1, 2, 0, 3] rfl ?_
          refine r_iinc (v := l3 + 1) (lv' := [(0, .ref (B + 39)), (1, .int l1), (2, .int 0), (3, .int (l3 + 1))]) (pc := 52) X dX11_isSilent_52 3 rfl rfl (by decide) [1, 2, 3, 0] rfl ?_
          refine r_goto (tgt := 6) (pc := 55) X dX11_isSilent_55 (by decide) ?_
          exact ih hf
        · refine r_iconst (v := 1) (pc := 46) X dX11_isSilent_46 (by decide) ?_
          refine r_goto (tgt := 51) (pc := 47) X dX11_isSilent_47 (by decide) ?_
          refine r_istore_n (pc := 51) (lv' := [(0, .ref (B + 39)), (1, .int l1), (2, .int 1), (3, .int l3)]) X dX11_isSilent_51 (by decide) [1, 2, 0, 3] rfl ?_
          refine r_iinc (v := l3 + 1) (lv' := [(0, .ref (B + 39)), (1, .int l1), (2, .int 1), (3, .int (l3 + 1))]) (pc := 52) X dX11_isSilent_52 3 rfl rfl (by decide) [1, 2, 3, 0] rfl ?_
          refine r_goto (tgt := 6) (pc := 55) X dX11_isSilent_55 (by decide) ?_
          exact ih hf
      · refine r_iconst (v := 1) (pc := 46) X dX11_isSilent_46 (by decide) ?_
        refine r_goto (tgt := 51) (pc := 47) X dX11_isSilent_47 (by decide) ?_
        refine r_istore_n (pc := 51) (lv' := [(0, .ref (B + 39)), (1, .int l1), (2, .int 1), (3, .int l3)]) X dX11_isSilent_51 (by decide) [1, 2, 0, 3] rfl ?_
        refine r_iinc (v := l3 + 1) (lv' := [(0, .ref (B + 39)), (1, .int l1), (2, .int 1), (3, .int (l3 + 1))]) (pc := 52) X dX11_isSilent_52 3 rfl rfl (by decide) [1, 2, 3, 0] rfl ?_
        refine r_goto (tgt := 6) (pc := 55) X dX11_isSilent_55 (by decide) ?_
        exact ih hf
set_option maxHeartbeats 1000000 in
theorem c_f_M_isSilent {F : Nat} {s : St} {p1 : Int32} {r : Int32} {s' : St} (hf : f_M_isSilent F s p1 = some (r, s')) : CC true yX11_isSilent (Cond.code yX11_isSilent cX11_isSilent 4 (some .boolean)) 1 22 (fun B => [.ref (B + 39), .int p1]) s (fun B => (some (.int r))) s' 0 0 := by
  refine CC.of (fun B => [(0, .ref (B + 39)), (1, .int p1)]) (by decide +kernel) (fun _ => rfl) (fun _ => (by simp [lg_sl, rfB_cat, catI, catL, catR])) (fun Γ D B X hr hin => ?_)
  have X : Cx Γ RX11 cX11_isSilent 4 D B { frames := 1, cells := 0, slots := 0, locals := 22 } := X
  unfold f_M_isSilent at hf
  refine r_iconst (v := 0) (pc := 0) X dX11_isSilent_0 (by decide) ?_
  refine r_istore_n (pc := 1) (lv' := [(0, .ref (B + 39)), (1, .int p1), (2, .int 0)]) X dX11_isSilent_1 (by decide) [1, 2, 0] rfl ?_
  refine r_iconst (v := 5) (pc := 2) X dX11_isSilent_2 (by decide) ?_
  refine r_iload_n (pc := 3) X dX11_isSilent_3 1 rfl ?_
  refine r_imul (pc := 4) X dX11_isSilent_4 ?_
  refine r_istore_n (pc := 5) (lv' := [(0, .ref (B + 39)), (1, .int p1), (2, .int 0), (3, .int ((5 : Int32) * p1))]) X dX11_isSilent_5 (by decide) [1, 2, 3, 0] rfl ?_
  exact c_f_M_isSilent_b6 X hr _ hf
/-! f_M_isRisen -/
theorem dX11_isRisen_0 : decode cX11_isRisen 0 = .ok (.aload_n 0, 1) := by decide +kernel
theorem dX11_isRisen_1 : decode cX11_isRisen 1 = .ok (.getfield 84, 3) := by decide +kernel
theorem dX11_isRisen_4 : decode cX11_isRisen 4 = .ok (.iload_n 1, 1) := by decide +kernel
theorem dX11_isRisen_5 : decode cX11_isRisen 5 = .ok (.iaload, 1) := by decide +kernel
theorem dX11_isRisen_6 : decode cX11_isRisen 6 = .ok (.ifCond .eq 23, 3) := by decide +kernel
theorem dX11_isRisen_9 : decode cX11_isRisen 9 = .ok (.aload_n 0, 1) := by decide +kernel
theorem dX11_isRisen_10 : decode cX11_isRisen 10 = .ok (.getfield 269, 3) := by decide +kernel
theorem dX11_isRisen_13 : decode cX11_isRisen 13 = .ok (.aload_n 0, 1) := by decide +kernel
theorem dX11_isRisen_14 : decode cX11_isRisen 14 = .ok (.getfield 81, 3) := by decide +kernel
theorem dX11_isRisen_17 : decode cX11_isRisen 17 = .ok (.iload_n 1, 1) := by decide +kernel
theorem dX11_isRisen_18 : decode cX11_isRisen 18 = .ok (.iaload, 1) := by decide +kernel
theorem dX11_isRisen_19 : decode cX11_isRisen 19 = .ok (.isub, 1) := by decide +kernel
theorem dX11_isRisen_20 : decode cX11_isRisen 20 = .ok (.aload_n 0, 1) := by decide +kernel
theorem dX11_isRisen_21 : decode cX11_isRisen 21 = .ok (.getfield 75, 3) := by decide +kernel
theorem dX11_isRisen_24 : decode cX11_isRisen 24 = .ok (.iload_n 1, 1) := by decide +kernel
theorem dX11_isRisen_25 : decode cX11_isRisen 25 = .ok (.iaload, 1) := by decide +kernel
theorem dX11_isRisen_26 : decode cX11_isRisen 26 = .ok (.if_icmp .le 7, 3) := by decide +kernel
theorem dX11_isRisen_29 : decode cX11_isRisen 29 = .ok (.iconst 1, 1) := by decide +kernel
theorem dX11_isRisen_30 : decode cX11_isRisen 30 = .ok (.goto 4, 3) := by decide +kernel
theorem dX11_isRisen_33 : decode cX11_isRisen 33 = .ok (.iconst 0, 1) := by decide +kernel
theorem dX11_isRisen_34 : decode cX11_isRisen 34 = .ok (.istore_n 2, 1) := by decide +kernel
theorem dX11_isRisen_35 : decode cX11_isRisen 35 = .ok (.aload_n 0, 1) := by decide +kernel
theorem dX11_isRisen_36 : decode cX11_isRisen 36 = .ok (.getfield 78, 3) := by decide +kernel
theorem dX11_isRisen_39 : decode cX11_isRisen 39 = .ok (.iload_n 1, 1) := by decide +kernel
theorem dX11_isRisen_40 : decode cX11_isRisen 40 = .ok (.baload, 1) := by decide +kernel
theorem dX11_isRisen_41 : decode cX11_isRisen 41 = .ok (.ifCond .ne 46, 3) := by decide +kernel
theorem dX11_isRisen_44 : decode cX11_isRisen 44 = .ok (.aload_n 0, 1) := by decide +kernel
theorem dX11_isRisen_45 : decode cX11_isRisen 45 = .ok (.iload_n 1, 1) := by decide +kernel
theorem dX11_isRisen_46 : decode cX11_isRisen 46 = .ok (.aload_n 0, 1) := by decide +kernel
theorem dX11_isRisen_47 : decode cX11_isRisen 47 = .ok (.getfield 269, 3) := by decide +kernel
theorem dX11_isRisen_50 : decode cX11_isRisen 50 = .ok (.aload_n 0, 1) := by decide +kernel
theorem dX11_isRisen_51 : decode cX11_isRisen 51 = .ok (.getfield 72, 3) := by decide +kernel
theorem dX11_isRisen_54 : decode cX11_isRisen 54 = .ok (.iload_n 1, 1) := by decide +kernel
theorem dX11_isRisen_55 : decode cX11_isRisen 55 = .ok (.iaload, 1) := by decide +kernel
theorem dX11_isRisen_56 : decode cX11_isRisen 56 = .ok (.isub, 1) := by decide +kernel
theorem dX11_isRisen_57 : decode cX11_isRisen 57 = .ok (.iconst 1, 1) := by decide +kernel
theorem dX11_isRisen_58 : decode cX11_isRisen 58 = .ok (.iadd, 1) := by decide +kernel
theorem dX11_isRisen_59 : decode cX11_isRisen 59 = .ok (.aload_n 0, 1) := by decide +kernel
theorem dX11_isRisen_60 : decode cX11_isRisen 60 = .ok (.getfield 269, 3) := by decide +kernel
theorem dX11_isRisen_63 : decode cX11_isRisen 63 = .ok (.invokevirtual 272, 3) := by decide +kernel
theorem dX11_isRisen_66 : decode cX11_isRisen 66 = .ok (.lconst 0, 1) := by decide +kernel
theorem dX11_isRisen_67 : decode cX11_isRisen 67 = .ok (.lcmp, 1) := by decide +kernel
theorem dX11_isRisen_68 : decode cX11_isRisen 68 = .ok (.ifCond .eq 19, 3) := by decide +kernel
theorem dX11_isRisen_71 : decode cX11_isRisen 71 = .ok (.iload_n 2, 1) := by decide +kernel
theorem dX11_isRisen_72 : decode cX11_isRisen 72 = .ok (.ifCond .eq 15, 3) := by decide +kernel
theorem dX11_isRisen_75 : decode cX11_isRisen 75 = .ok (.aload_n 0, 1) := by decide +kernel
theorem dX11_isRisen_76 : decode cX11_isRisen 76 = .ok (.iload_n 1, 1) := by decide +kernel
theorem dX11_isRisen_77 : decode cX11_isRisen 77 = .ok (.invokevirtual 309, 3) := by decide +kernel
theorem dX11_isRisen_80 : decode cX11_isRisen 80 = .ok (.ifCond .ne 7, 3) := by decide +kernel
theorem dX11_isRisen_83 : decode cX11_isRisen 83 = .ok (.iconst 1, 1) := by decide +kernel
theorem dX11_isRisen_84 : decode cX11_isRisen 84 = .ok (.goto 4, 3) := by decide +kernel
theorem dX11_isRisen_87 : decode cX11_isRisen 87 = .ok (.iconst 0, 1) := by decide +kernel
theorem dX11_isRisen_88 : decode cX11_isRisen 88 = .ok (.ireturn, 1) := by decide +kernel
def f_M_isRisen_b34 (F : Nat) (s : St) (l1 : Int32) (t0 : Int32) : Option (Int32 × St) :=
  (ix 4 l1).bind fun j2 => (if (gA s 62 j2) = 0 then
    ((ix 4 l1).bind fun j3 => ((f_M_runs F s l1 (((gI s 2526) - (gA s 60 j3)) + 1) (gI s 2526)).bind fun x4 => (if x4.1 = 0 then
      (some (0, x4.2))
    else
      (if t0 = 0 then
        (some (0, x4.2))
      else
        ((f_M_isSilent F x4.2 l1).bind fun x5 => (if x5.1 = 0 then
          (some (1, x5.2))
        else
          (some (0, x5.2))))))))
  else
    (some (0, s)))
def f_M_isRisen (F : Nat) (s : St) (p1 : Int32) : Option (Int32 × St) :=
  (ix 4 p1).bind fun j1 => (if (gA s 64 j1) = 0 then
    (f_M_isRisen_b34 F s p1 1)
  else
    ((ix 4 p1).bind fun j6 => ((ix 4 p1).bind fun j7 => (if ((gI s 2526) - (gA s 63 j6)) ≤ (gA s 61 j7) then
      (f_M_isRisen_b34 F s p1 0)
    else
      (f_M_isRisen_b34 F s p1 1)))))
set_option maxHeartbeats 1000000 in
theorem c_f_M_isRisen_b34 {F : Nat} {Γ : Ga} {D : DD} {B : Nat} {r : Int32} {s' : St} (X : Cx Γ RX11 cX11_isRisen 3 D B { frames := 6, cells := 0, slots := 0, locals := 159 }) (hr : (Gme Γ).sig.returnType = (some .boolean)) {s : St} {l1 : Int32} {t0 : Int32} (hf : f_M_isRisen_b34 F s l1 t0 = some (r, s')) : V Γ D B true 3 (QM Γ D B true s' (some (.int r)) 0 0) 0 0 s 34 [(0, .ref (B + 39)), (1, .int l1)] [.int t0] := by
  unfold f_M_isRisen_b34 at hf
  refine r_istore_n (pc := 34) (lv' := [(0, .ref (B + 39)), (1, .int l1), (2, .int t0)]) X dX11_isRisen_34 (by decide) [1, 2, 0] rfl ?_
  refine r_aload_n (x := some 39) (pc := 35) X dX11_isRisen_35 0 rfl ?_
  refine r_get (j := 44) (pc := 36) X ce_39 rfl inT11 (by decide) w_1124 rfl dX11_isRisen_36 ?_
  refine r_iload_n (pc := 39) X dX11_isRisen_39 1 rfl ?_
  refine b_zald (pc := 40) X ce_62 dX11_isRisen_40 hf (fun j2 hf => ?_)
  refine b_if_ne (tgt := 87) (pc := 41) X dX11_isRisen_41 (by decide) hf (fun hf => ?_) (fun hf => ?_)
  · refine r_aload_n (x := some 39) (pc := 44) X dX11_isRisen_44 0 rfl ?_
    refine r_iload_n (pc := 45) X dX11_isRisen_45 1 rfl ?_
    refine r_aload_n (x := some 39) (pc := 46) X dX11_isRisen_46 0 rfl ?_
    refine r_get (j := 30) (pc := 47) X ce_39 rfl inT11 (by decide) w_1110 rfl dX11_isRisen_47 ?_
    refine r_aload_n (x := some 39) (pc := 50) X dX11_isRisen_50 0 rfl ?_
    refine r_get (j := 42) (pc := 51) X ce_39 rfl inT11 (by decide) w_1122 rfl dX11_isRisen_51 ?_
    refine r_iload_n (pc := 54) X dX11_isRisen_54 1 rfl ?_
    refine b_iald (pc := 55) X ce_60 dX11_isRisen_55 hf (fun j3 hf => ?_)
    refine r_isub (pc := 56) X dX11_isRisen_56 ?_
    refine r_iconst (v := 1) (pc := 57) X dX11_isRisen_57 (by decide) ?_
    refine r_iadd (pc := 58) X dX11_isRisen_58 ?_
    refine r_aload_n (x := some 39) (pc := 59) X dX11_isRisen_59 0 rfl ?_
    refine r_get (j := 30) (pc := 60) X ce_39 rfl inT11 (by decide) w_1110 rfl dX11_isRisen_60 ?_
    refine bnd hf (fun x4 h4 hf => ?_)
    refine r_callVl (As := [.int l1, .int (((gI s 2526) - (gA s 60 j3)) + 1), .int (gI s 2526)]) (st := []) (pc := 63) X (c_f_M_runs h4) rfl w_1363 w_1365 w_54 w_84 w_1366 hdV_X11_runs (Rc.s rfl ce_39) (by decide) (by decide) (by decide) (Nat.le_of_ble_eq_true rfl) dX11_isRisen_63 rfl ?_
    refine r_lconst (v := 0) (pc := 66) X dX11_isRisen_66 (by decide) ?_
    refine b_lcmp_eq (tgt := 87) (pc := 67) X dX11_isRisen_67 dX11_isRisen_68 (by decide) hf (fun hf => ?_) (fun hf => ?_)
    · refine r_iconst (v := 0) (pc := 87) X dX11_isRisen_87 (by decide) ?_
      exact e_zret (pc := 88) X hr (by decide) hf (Nat.le_refl _) (Nat.le_refl _) dX11_isRisen_88
    · refine r_iload_n (pc := 71) X dX11_isRisen_71 2 rfl ?_
      refine b_if_eq (tgt := 87) (pc := 72) X dX11_isRisen_72 (by decide) hf (fun hf => ?_) (fun hf => ?_)
      · refine r_iconst (v := 0) (pc := 87) X dX11_isRisen_87 (by decide) ?_
        exact e_zret (pc := 88) X hr (by decide) hf (Nat.le_refl _) (Nat.le_refl _) dX11_isRisen_88
      · refine r_aload_n (x := some 39) (pc := 75) X dX11_isRisen_75 0 rfl ?_
        refine r_iload_n (pc := 76) X dX11_isRisen_76 1 rfl ?_
        refine bnd hf (fun x5 h5 hf => ?_)
        refine r_callVi (As := [.int l1]) (st := []) (pc := 77) X (c_f_M_isSilent h5) rfl w_1432 w_1434 w_67 w_84 w_1435 hdV_X11_isSilent (Rc.s rfl ce_39) (by decide) (by decide) (by decide) (Nat.le_of_ble_eq_true rfl) dX11_isRisen_77 rfl ?_
        refine b_if_ne (tgt := 87) (pc := 80) X dX11_isRisen_80 (by decide) hf (fun hf => ?_) (fun hf => ?_)
        · refine r_iconst (v := 1) (pc := 83) X dX11_isRisen_83 (by decide) ?_
          refine r_goto (tgt := 88) (pc := 84) X dX11_isRisen_84 (by decide) ?_
          exact e_zret (pc := 88) X hr (by decide) hf (Nat.le_refl _) (Nat.le_refl _) dX11_isRisen_88
        · refine r_iconst (v := 0) (pc := 87) X dX11_isRisen_87 (by decide) ?_
          exact e_zret (pc := 88) X hr (by decide) hf (Nat.le_refl _) (Nat.le_refl _) dX11_isRisen_88
  · refine r_iconst (v := 0) (pc := 87) X dX11_isRisen_87 (by decide) ?_
    exact e_zret (pc := 88) X hr (by decide) hf (Nat.le_refl _) (Nat.le_refl _) dX11_isRisen_88
set_option maxHeartbeats 1000000 in
theorem c_f_M_isRisen {F : Nat} {s : St} {p1 : Int32} {r : Int32} {s' : St} (hf : f_M_isRisen F s p1 = some (r, s')) : CC true yX11_isRisen (Cond.code yX11_isRisen cX11_isRisen 3 (some .boolean)) 6 159 (fun B => [.ref (B + 39), .int p1]) s (fun B => (some (.int r))) s' 0 0 := by
  refine CC.of (fun B => [(0, .ref (B + 39)), (1, .int p1)]) (by decide +kernel) (fun _ => rfl) (fun _ => (by simp [lg_sl, rfB_cat, catI, catL, catR])) (fun Γ D B X hr hin => ?_)
  have X : Cx Γ RX11 cX11_isRisen 3 D B { frames := 6, cells := 0, slots := 0, locals := 159 } := X
  unfold f_M_isRisen at hf
  refine r_aload_n (x := some 39) (pc := 0) X dX11_isRisen_0 0 rfl ?_
  refine r_get (j := 46) (pc := 1) X ce_39 rfl inT11 (by decide) w_1126 rfl dX11_isRisen_1 ?_
  refine r_iload_n (pc := 4) X dX11_isRisen_4 1 rfl ?_
  refine b_iald (pc := 5) X ce_64 dX11_isRisen_5 hf (fun j1 hf => ?_)
  refine b_if_eq (tgt := 29) (pc := 6) X dX11_isRisen_6 (by decide) hf (fun hf => ?_) (fun hf => ?_)
  · refine r_iconst (v := 1) (pc := 29) X dX11_isRisen_29 (by decide) ?_
    refine r_goto (tgt := 34) (pc := 30) X dX11_isRisen_30 (by decide) ?_
    exact c_f_M_isRisen_b34 X hr hf
  · refine r_aload_n (x := some 39) (pc := 9) X dX11_isRisen_9 0 rfl ?_
    refine r_get (j := 30) (pc := 10) X ce_39 rfl inT11 (by decide) w_1110 rfl dX11_isRisen_10 ?_
    refine r_aload_n (x := some 39) (pc := 13) X dX11_isRisen_13 0 rfl ?_
    refine r_get (j := 45) (pc := 14) X ce_39 rfl inT11 (by decide) w_1125 rfl dX11_isRisen_14 ?_
    refine r_iload_n (pc := 17) X dX11_isRisen_17 1 rfl ?_
    refine b_iald (pc := 18) X ce_63 dX11_isRisen_18 hf (fun j6 hf => ?_)
    refine r_isub (pc := 19) X dX11_isRisen_19 ?_
    refine r_aload_n (x := some 39) (pc := 20) X dX11_isRisen_20 0 rfl ?_
    refine r_get (j := 43) (pc := 21) X ce_39 rfl inT11 (by decide) w_1123 rfl dX11_isRisen_21 ?_
    refine r_iload_n (pc := 24) X dX11_isRisen_24 1 rfl ?_
    refine b_iald (pc := 25) X ce_61 dX11_isRisen_25 hf (fun j7 hf => ?_)
    refine b_icmp_le (tgt := 33) (pc := 26) X dX11_isRisen_26 (by decide) hf (fun hf => ?_) (fun hf => ?_)
    · refine r_iconst (v := 0) (pc := 33) X dX11_isRisen_33 (by decide) ?_
      exact c_f_M_isRisen_b34 X hr hf
    · refine r_iconst (v := 1) (pc := 29) X dX11_isRisen_29 (by decide) ?_
      refine r_goto (tgt := 34) (pc := 30) X dX11_isRisen_30 (by decide) ?_
      exact c_f_M_isRisen_b34 X hr hf
/-! f_M_raises -/
theorem dX11_raises_0 : decode cX11_raises 0 = .ok (.aload_n 0, 1) := by decide +kernel
theorem dX11_raises_1 : decode cX11_raises 1 = .ok (.getfield 96, 3) := by decide +kernel
theorem dX11_raises_4 : decode cX11_raises 4 = .ok (.aload_n 0, 1) := by decide +kernel
theorem dX11_raises_5 : decode cX11_raises 5 = .ok (.getfield 300, 3) := by decide +kernel
theorem dX11_raises_8 : decode cX11_raises 8 = .ok (.iload_n 1, 1) := by decide +kernel
theorem dX11_raises_9 : decode cX11_raises 9 = .ok (.aload_n 0, 1) := by decide +kernel
theorem dX11_raises_10 : decode cX11_raises 10 = .ok (.getfield 269, 3) := by decide +kernel
theorem dX11_raises_13 : decode cX11_raises 13 = .ok (.iconst 2, 1) := by decide +kernel
theorem dX11_raises_14 : decode cX11_raises 14 = .ok (.ishl, 1) := by decide +kernel
theorem dX11_raises_15 : decode cX11_raises 15 = .ok (.ior, 1) := by decide +kernel
theorem dX11_raises_16 : decode cX11_raises 16 = .ok (.iastore, 1) := by decide +kernel
theorem dX11_raises_17 : decode cX11_raises 17 = .ok (.aload_n 0, 1) := by decide +kernel
theorem dX11_raises_18 : decode cX11_raises 18 = .ok (.dup, 1) := by decide +kernel
theorem dX11_raises_19 : decode cX11_raises 19 = .ok (.getfield 300, 3) := by decide +kernel
theorem dX11_raises_22 : decode cX11_raises 22 = .ok (.iconst 1, 1) := by decide +kernel
theorem dX11_raises_23 : decode cX11_raises 23 = .ok (.iadd, 1) := by decide +kernel
theorem dX11_raises_24 : decode cX11_raises 24 = .ok (.putfield 300, 3) := by decide +kernel
theorem dX11_raises_27 : decode cX11_raises 27 = .ok (.aload_n 0, 1) := by decide +kernel
theorem dX11_raises_28 : decode cX11_raises 28 = .ok (.getfield 81, 3) := by decide +kernel
theorem dX11_raises_31 : decode cX11_raises 31 = .ok (.iload_n 1, 1) := by decide +kernel
theorem dX11_raises_32 : decode cX11_raises 32 = .ok (.aload_n 0, 1) := by decide +kernel
theorem dX11_raises_33 : decode cX11_raises 33 = .ok (.getfield 269, 3) := by decide +kernel
theorem dX11_raises_36 : decode cX11_raises 36 = .ok (.iastore, 1) := by decide +kernel
theorem dX11_raises_37 : decode cX11_raises 37 = .ok (.aload_n 0, 1) := by decide +kernel
theorem dX11_raises_38 : decode cX11_raises 38 = .ok (.getfield 84, 3) := by decide +kernel
theorem dX11_raises_41 : decode cX11_raises 41 = .ok (.iload_n 1, 1) := by decide +kernel
theorem dX11_raises_42 : decode cX11_raises 42 = .ok (.dup2, 1) := by decide +kernel
theorem dX11_raises_43 : decode cX11_raises 43 = .ok (.iaload, 1) := by decide +kernel
theorem dX11_raises_44 : decode cX11_raises 44 = .ok (.iconst 1, 1) := by decide +kernel
theorem dX11_raises_45 : decode cX11_raises 45 = .ok (.iadd, 1) := by decide +kernel
theorem dX11_raises_46 : decode cX11_raises 46 = .ok (.iastore, 1) := by decide +kernel
theorem dX11_raises_47 : decode cX11_raises 47 = .ok (.aload_n 0, 1) := by decide +kernel
theorem dX11_raises_48 : decode cX11_raises 48 = .ok (.getfield 66, 3) := by decide +kernel
theorem dX11_raises_51 : decode cX11_raises 51 = .ok (.aload_n 0, 1) := by decide +kernel
theorem dX11_raises_52 : decode cX11_raises 52 = .ok (.getfield 269, 3) := by decide +kernel
theorem dX11_raises_55 : decode cX11_raises 55 = .ok (.bipush 8, 2) := by decide +kernel
theorem dX11_raises_57 : decode cX11_raises 57 = .ok (.idiv, 1) := by decide +kernel
theorem dX11_raises_58 : decode cX11_raises 58 = .ok (.iaload, 1) := by decide +kernel
theorem dX11_raises_59 : decode cX11_raises 59 = .ok (.istore_n 2, 1) := by decide +kernel
theorem dX11_raises_60 : decode cX11_raises 60 = .ok (.iload_n 2, 1) := by decide +kernel
theorem dX11_raises_61 : decode cX11_raises 61 = .ok (.iconst (-1), 1) := by decide +kernel
theorem dX11_raises_62 : decode cX11_raises 62 = .ok (.if_icmp .eq 14, 3) := by decide +kernel
theorem dX11_raises_65 : decode cX11_raises 65 = .ok (.aload_n 0, 1) := by decide +kernel
theorem dX11_raises_66 : decode cX11_raises 66 = .ok (.aload_n 0, 1) := by decide +kernel
theorem dX11_raises_67 : decode cX11_raises 67 = .ok (.getfield 300, 3) := by decide +kernel
theorem dX11_raises_70 : decode cX11_raises 70 = .ok (.iconst 1, 1) := by decide +kernel
theorem dX11_raises_71 : decode cX11_raises 71 = .ok (.isub, 1) := by decide +kernel
theorem dX11_raises_72 : decode cX11_raises 72 = .ok (.iload_n 2, 1) := by decide +kernel
theorem dX11_raises_73 : decode cX11_raises 73 = .ok (.invokevirtual 306, 3) := by decide +kernel
theorem dX11_raises_76 : decode cX11_raises 76 = .ok (.return_, 1) := by decide +kernel
def f_M_raises (F : Nat) (s : St) (p1 : Int32) : Option (St) :=
  (ix 4000 (gI s 2546)).bind fun j1 => (lt (sA s 68 j1 (p1 ||| ((gI s 2526) <<< ((2 : Int32) &&& 31)))) fun s2 => (lt (sI s2 2546 ((gI s2 2546) + 1)) fun s3 => ((ix 4 p1).bind fun j4 => (lt (sA s3 63 j4 (gI s3 2526)) fun s5 => ((ix 4 p1).bind fun j6 => ((ix 4 p1).bind fun j7 => (lt (sA s5 64 j7 ((gA s5 64 j6) + 1)) fun s8 => ((ix 126 ((gI s8 2526) / 8)).bind fun j9 => (if (gA s8 58 j9) = (-1) then
    (some s8)
  else
    ((f_M_wakes F s8 ((gI s8 2546) - 1) (gA s8 58 j9)).bind fun x10 => (some x10)))))))))))
set_option maxHeartbeats 1000000 in
theorem c_f_M_raises {F : Nat} {s : St} {p1 : Int32} {s' : St} (hf : f_M_raises F s p1 = some s') : CC true yX11_raises (Cond.code yX11_raises cX11_raises 3 none) 1 22 (fun B => [.ref (B + 39), .int p1]) s (fun B => none) s' 0 0 := by
  refine CC.of (fun B => [(0, .ref (B + 39)), (1, .int p1)]) (by decide +kernel) (fun _ => rfl) (fun _ => (by simp [lg_sl, rfB_cat, catI, catL, catR])) (fun Γ D B X hr hin => ?_)
  have X : Cx Γ RX11 cX11_raises 3 D B { frames := 1, cells := 0, slots := 0, locals := 22 } := X
  unfold f_M_raises at hf
  refine r_aload_n (x := some 39) (pc := 0) X dX11_raises_0 0 rfl ?_
  refine r_get (j := 51) (pc := 1) X ce_39 rfl inT11 (by decide) w_1131 rfl dX11_raises_1 ?_
  refine r_aload_n (x := some 39) (pc := 4) X dX11_raises_4 0 rfl ?_
  refine r_get (j := 50) (pc := 5) X ce_39 rfl inT11 (by decide) w_1130 rfl dX11_raises_5 ?_
  refine r_iload_n (pc := 8) X dX11_raises_8 1 rfl ?_
  refine r_aload_n (x := some 39) (pc := 9) X dX11_raises_9 0 rfl ?_
  refine r_get (j := 30) (pc := 10) X ce_39 rfl inT11 (by decide) w_1110 rfl dX11_raises_10 ?_
  refine r_iconst (v := 2) (pc := 13) X dX11_raises_13 (by decide) ?_
  refine r_ishl (pc := 14) X dX11_raises_14 ?_
  refine r_ior (pc := 15) X dX11_raises_15 ?_
  refine b_iast (pc := 16) X ce_68 (fun _ => ca_68 _ _) dX11_raises_16 hf (fun j1 s2 hf => ?_)
  refine r_aload_n (x := some 39) (pc := 17) X dX11_raises_17 0 rfl ?_
  refine r_dup (pc := 18) X dX11_raises_18 rfl ?_
  refine r_get (j := 50) (pc := 19) X ce_39 rfl inT11 (by decide) w_1130 rfl dX11_raises_19 ?_
  refine r_iconst (v := 1) (pc := 22) X dX11_raises_22 (by decide) ?_
  refine r_iadd (pc := 23) X dX11_raises_23 ?_
  refine b_put (j := 50) (pc := 24) X ce_39 rfl inT11 tyX11 tyX11_ok nmX11 (by decide) w_1130 rfl (tyX11_ok 50 (by decide)) rfl rfl (Nat.le_of_ble_eq_true rfl) (cp_2546 _) rfl rfl dX11_raises_24 hf (fun s3 hf => ?_)
  refine r_aload_n (x := some 39) (pc := 27) X dX11_raises_27 0 rfl ?_
  refine r_get (j := 45) (pc := 28) X ce_39 rfl inT11 (by decide) w_1125 rfl dX11_raises_28 ?_
  refine r_iload_n (pc := 31) X dX11_raises_31 1 rfl ?_
  refine r_aload_n (x := some 39) (pc := 32) X dX11_raises_32 0 rfl ?_
  refine r_get (j := 30) (pc := 33) X ce_39 rfl inT11 (by decide) w_1110 rfl dX11_raises_33 ?_
  refine b_iast (pc := 36) X ce_63 (fun _ => ca_63 _ _) dX11_raises_36 hf (fun j4 s5 hf => ?_)
  refine r_aload_n (x := some 39) (pc := 37) X dX11_raises_37 0 rfl ?_
  refine r_get (j := 46) (pc := 38) X ce_39 rfl inT11 (by decide) w_1126 rfl dX11_raises_38 ?_
  refine r_iload_n (pc := 41) X dX11_raises_41 1 rfl ?_
  refine r_dup2 (pc := 42) X dX11_raises_42 rfl rfl ?_
  refine b_iald (pc := 43) X ce_64 dX11_raises_43 hf (fun j6 hf => ?_)
  refine r_iconst (v := 1) (pc := 44) X dX11_raises_44 (by decide) ?_
  refine r_iadd (pc := 45) X dX11_raises_45 ?_
  refine b_iast (pc := 46) X ce_64 (fun _ => ca_64 _ _) dX11_raises_46 hf (fun j7 s8 hf => ?_)
  refine r_aload_n (x := some 39) (pc := 47) X dX11_raises_47 0 rfl ?_
  refine r_get (j := 39) (pc := 48) X ce_39 rfl inT11 (by decide) w_1119 rfl dX11_raises_48 ?_
  refine r_aload_n (x := some 39) (pc := 51) X dX11_raises_51 0 rfl ?_
  refine r_get (j := 30) (pc := 52) X ce_39 rfl inT11 (by decide) w_1110 rfl dX11_raises_52 ?_
  refine r_bipush (v := 8) (pc := 55) X dX11_raises_55 (by decide) ?_
  refine r_idiv (pc := 57) X dX11_raises_57 (by decide) ?_
  refine b_iald (pc := 58) X ce_58 dX11_raises_58 hf (fun j9 hf => ?_)
  refine r_istore_n (pc := 59) (lv' := [(0, .ref (B + 39)), (2, .int (gA s8 58 j9))]) X dX11_raises_59 (by decide) [1, 0] rfl ?_
  refine r_iload_n (pc := 60) X dX11_raises_60 1 rfl ?_
  refine r_iconst (v := -1) (pc := 61) X dX11_raises_61 (by decide) ?_
  refine b_icmp_eq (tgt := 76) (pc := 62) X dX11_raises_62 (by decide) hf (fun hf => ?_) (fun hf => ?_)
  · exact e_vret (pc := 76) X hr hf (Nat.le_refl _) (Nat.le_refl _) dX11_raises_76
  · refine r_aload_n (x := some 39) (pc := 65) X dX11_raises_65 0 rfl ?_
    refine r_aload_n (x := some 39) (pc := 66) X dX11_raises_66 0 rfl ?_
    refine r_get (j := 50) (pc := 67) X ce_39 rfl inT11 (by decide) w_1130 rfl dX11_raises_67 ?_
    refine r_iconst (v := 1) (pc := 70) X dX11_raises_70 (by decide) ?_
    refine r_isub (pc := 71) X dX11_raises_71 ?_
    refine r_iload_n (pc := 72) X dX11_raises_72 1 rfl ?_
    refine bnd hf (fun x10 h10 hf => ?_)
    refine r_callVv (As := [.int ((gI s8 2546) - 1), .int (gA s8 58 j9)]) (st := []) (pc := 73) X (c_f_M_wakes h10) rfl w_1424 w_1426 w_65 w_84 w_1427 hdV_X11_wakes (Rc.s rfl ce_39) (by decide) (by decide) (by decide) (Nat.le_of_ble_eq_true rfl) dX11_raises_73 rfl ?_
    exact e_vret (pc := 76) X hr hf (Nat.le_refl _) (Nat.le_refl _) dX11_raises_76
/-! f_M_pass -/
theorem dX11_pass_0 : decode cX11_pass 0 = .ok (.aload_n 0, 1) := by decide +kernel
theorem dX11_pass_1 : decode cX11_pass 1 = .ok (.iload_n 1, 1) := by decide +kernel
theorem dX11_pass_2 : decode cX11_pass 2 = .ok (.iconst 1, 1) := by decide +kernel
theorem dX11_pass_3 : decode cX11_pass 3 = .ok (.bipush 24, 2) := by decide +kernel
theorem dX11_pass_5 : decode cX11_pass 5 = .ok (.invokestatic 109, 3) := by decide +kernel
theorem dX11_pass_8 : decode cX11_pass 8 = .ok (.ifCond .ne 7, 3) := by decide +kernel
theorem dX11_pass_11 : decode cX11_pass 11 = .ok (.iconst 1, 1) := by decide +kernel
theorem dX11_pass_12 : decode cX11_pass 12 = .ok (.goto 20, 3) := by decide +kernel
theorem dX11_pass_15 : decode cX11_pass 15 = .ok (.aload_n 0, 1) := by decide +kernel
theorem dX11_pass_16 : decode cX11_pass 16 = .ok (.getfield 269, 3) := by decide +kernel
theorem dX11_pass_19 : decode cX11_pass 19 = .ok (.iload_n 1, 1) := by decide +kernel
theorem dX11_pass_20 : decode cX11_pass 20 = .ok (.iadd, 1) := by decide +kernel
theorem dX11_pass_21 : decode cX11_pass 21 = .ok (.sipush 1000, 3) := by decide +kernel
theorem dX11_pass_24 : decode cX11_pass 24 = .ok (.if_icmp .le 7, 3) := by decide +kernel
theorem dX11_pass_27 : decode cX11_pass 27 = .ok (.iconst 2, 1) := by decide +kernel
theorem dX11_pass_28 : decode cX11_pass 28 = .ok (.goto 4, 3) := by decide +kernel
theorem dX11_pass_31 : decode cX11_pass 31 = .ok (.iconst 0, 1) := by decide +kernel
theorem dX11_pass_32 : decode cX11_pass 32 = .ok (.invokevirtual 263, 3) := by decide +kernel
theorem dX11_pass_35 : decode cX11_pass 35 = .ok (.ifCond .ne 5, 3) := by decide +kernel
theorem dX11_pass_38 : decode cX11_pass 38 = .ok (.iconst 0, 1) := by decide +kernel
theorem dX11_pass_39 : decode cX11_pass 39 = .ok (.ireturn, 1) := by decide +kernel
theorem dX11_pass_40 : decode cX11_pass 40 = .ok (.aload_n 0, 1) := by decide +kernel
theorem dX11_pass_41 : decode cX11_pass 41 = .ok (.getfield 300, 3) := by decide +kernel
theorem dX11_pass_44 : decode cX11_pass 44 = .ok (.istore_n 2, 1) := by decide +kernel
theorem dX11_pass_45 : decode cX11_pass 45 = .ok (.iconst 0, 1) := by decide +kernel
theorem dX11_pass_46 : decode cX11_pass 46 = .ok (.istore_n 3, 1) := by decide +kernel
theorem dX11_pass_47 : decode cX11_pass 47 = .ok (.iload_n 3, 1) := by decide +kernel
theorem dX11_pass_48 : decode cX11_pass 48 = .ok (.iload_n 1, 1) := by decide +kernel
theorem dX11_pass_49 : decode cX11_pass 49 = .ok (.if_icmp .ge 73, 3) := by decide +kernel
theorem dX11_pass_52 : decode cX11_pass 52 = .ok (.aload_n 0, 1) := by decide +kernel
theorem dX11_pass_53 : decode cX11_pass 53 = .ok (.dup, 1) := by decide +kernel
theorem dX11_pass_54 : decode cX11_pass 54 = .ok (.getfield 269, 3) := by decide +kernel
theorem dX11_pass_57 : decode cX11_pass 57 = .ok (.iconst 1, 1) := by decide +kernel
theorem dX11_pass_58 : decode cX11_pass 58 = .ok (.iadd, 1) := by decide +kernel
theorem dX11_pass_59 : decode cX11_pass 59 = .ok (.putfield 269, 3) := by decide +kernel
theorem dX11_pass_62 : decode cX11_pass 62 = .ok (.aload_n 0, 1) := by decide +kernel
theorem dX11_pass_63 : decode cX11_pass 63 = .ok (.getfield 269, 3) := by decide +kernel
theorem dX11_pass_66 : decode cX11_pass 66 = .ok (.bipush 8, 2) := by decide +kernel
theorem dX11_pass_68 : decode cX11_pass 68 = .ok (.irem, 1) := by decide +kernel
theorem dX11_pass_69 : decode cX11_pass 69 = .ok (.ifCond .ne 14, 3) := by decide +kernel
theorem dX11_pass_72 : decode cX11_pass 72 = .ok (.aload_n 0, 1) := by decide +kernel
theorem dX11_pass_73 : decode cX11_pass 73 = .ok (.aload_n 0, 1) := by decide +kernel
theorem dX11_pass_74 : decode cX11_pass 74 = .ok (.getfield 269, 3) := by decide +kernel
theorem dX11_pass_77 : decode cX11_pass 77 = .ok (.bipush 8, 2) := by decide +kernel
theorem dX11_pass_79 : decode cX11_pass 79 = .ok (.idiv, 1) := by decide +kernel
theorem dX11_pass_80 : decode cX11_pass 80 = .ok (.invokevirtual 312, 3) := by decide +kernel
theorem dX11_pass_83 : decode cX11_pass 83 = .ok (.iconst 0, 1) := by decide +kernel
theorem dX11_pass_84 : decode cX11_pass 84 = .ok (.istore 4, 2) := by decide +kernel
theorem dX11_pass_86 : decode cX11_pass 86 = .ok (.iload 4, 2) := by decide +kernel
theorem dX11_pass_88 : decode cX11_pass 88 = .ok (.aload_n 0, 1) := by decide +kernel
theorem dX11_pass_89 : decode cX11_pass 89 = .ok (.getfield 315, 3) := by decide +kernel
theorem dX11_pass_92 : decode cX11_pass 92 = .ok (.if_icmp .ge 24, 3) := by decide +kernel
theorem dX11_pass_95 : decode cX11_pass 95 = .ok (.aload_n 0, 1) := by decide +kernel
theorem dX11_pass_96 : decode cX11_pass 96 = .ok (.iload 4, 2) := by decide +kernel
theorem dX11_pass_98 : decode cX11_pass 98 = .ok (.invokevirtual 318, 3) := by decide +kernel
theorem dX11_pass_101 : decode cX11_pass 101 = .ok (.ifCond .eq 9, 3) := by decide +kernel
theorem dX11_pass_104 : decode cX11_pass 104 = .ok (.aload_n 0, 1) := by decide +kernel
theorem dX11_pass_105 : decode cX11_pass 105 = .ok (.iload 4, 2) := by decide +kernel
theorem dX11_pass_107 : decode cX11_pass 107 = .ok (.invokevirtual 321, 3) := by decide +kernel
theorem dX11_pass_110 : decode cX11_pass 110 = .ok (.iinc 4 1, 3) := by decide +kernel
theorem dX11_pass_113 : decode cX11_pass 113 = .ok (.goto (-27), 3) := by decide +kernel
theorem dX11_pass_116 : decode cX11_pass 116 = .ok (.iinc 3 1, 3) := by decide +kernel
theorem dX11_pass_119 : decode cX11_pass 119 = .ok (.goto (-72), 3) := by decide +kernel
theorem dX11_pass_122 : decode cX11_pass 122 = .ok (.aload_n 0, 1) := by decide +kernel
theorem dX11_pass_123 : decode cX11_pass 123 = .ok (.getfield 300, 3) := by decide +kernel
theorem dX11_pass_126 : decode cX11_pass 126 = .ok (.iload_n 2, 1) := by decide +kernel
theorem dX11_pass_127 : decode cX11_pass 127 = .ok (.isub, 1) := by decide +kernel
theorem dX11_pass_128 : decode cX11_pass 128 = .ok (.ireturn, 1) := by decide +kernel
def f_M_pass_b86 (F : Nat) (K47 : St → Int32 → Int32 → Int32 → Option (Int32 × St)) : Nat → St → Int32 → Int32 → Int32 → Int32 → Option (Int32 × St)
  | 0, _, _, _, _, _ => none
  | n + 1, s, l1, l2, l3, l4 =>
    if (gI s 2536) ≤ l4 then
      (K47 s l1 l2 (l3 + 1))
    else
      ((f_M_isRisen F s l4).bind fun x5 => (if x5.1 = 0 then
        (f_M_pass_b86 F K47 n x5.2 l1 l2 l3 (l4 + 1))
      else
        ((f_M_raises F x5.2 l4).bind fun x6 => (f_M_pass_b86 F K47 n x6 l1 l2 l3 (l4 + 1)))))
def f_M_pass_b47 (F : Nat) : Nat → St → Int32 → Int32 → Int32 → Option (Int32 × St)
  | 0, _, _, _, _ => none
  | n + 1, s, l1, l2, l3 =>
    if l1 ≤ l3 then
      (some (((gI s 2546) - l2), s))
    else
      (lt (sI s 2526 ((gI s 2526) + 1)) fun s3 => (if ((gI s3 2526) - (gI s3 2526) / 8 * 8) = 0 then
        ((f_M_begins F s3 ((gI s3 2526) / 8)).bind fun x4 => (f_M_pass_b86 F (f_M_pass_b47 F n) F x4 l1 l2 l3 0))
      else
        (f_M_pass_b86 F (f_M_pass_b47 F n) F s3 l1 l2 l3 0)))
def f_M_pass (F : Nat) (s : St) (p1 : Int32) : Option (Int32 × St) :=
  (f_M_isIn F s p1 1 24).bind fun x1 => (if x1.1 = 0 then
    ((f_M_goes F x1.2 1).bind fun x2 => (if x2.1 = 0 then
      (some (0, x2.2))
    else
      (f_M_pass_b47 F F x2.2 p1 (gI x2.2 2546) 0)))
  else
    (if ((gI x1.2 2526) + p1) ≤ 1000 then
      ((f_M_goes F x1.2 0).bind fun x7 => (if x7.1 = 0 then
        (some (0, x7.2))
      else
        (f_M_pass_b47 F F x7.2 p1 (gI x7.2 2546) 0)))
    else
      ((f_M_goes F x1.2 2).bind fun x8 => (if x8.1 = 0 then
        (some (0, x8.2))
      else
        (f_M_pass_b47 F F x8.2 p1 (gI x8.2 2546) 0)))))
set_option maxHeartbeats 1000000 in
theorem c_f_M_pass_b86 {F : Nat} {Γ : Ga} {D : DD} {B : Nat} {r : Int32} {s' : St} (X : Cx Γ RX11 cX11_pass 5 D B { frames := 7, cells := 0, slots := 0, locals := 181 }) (hr : (Gme Γ).sig.returnType = (some .int)) {K47 : St → Int32 → Int32 → Int32 → Option (Int32 × St)} (hK47 : ∀ {s : St} {l1 : Int32} {l2 : Int32} {l3 : Int32}, K47 s l1 l2 l3 = some (r, s') → V Γ D B true 5 (QM Γ D B true s' (some (.int r)) 0 0) 0 0 s 47 [(0, .ref (B + 39)), (1, .int l1), (2, .int l2), (3, .int l3)] []) : ∀ (n : Nat) {s : St} {l1 : Int32} {l2 : Int32} {l3 : Int32} {l4 : Int32}, f_M_pass_b86 F K47 n s l1 l2 l3 l4 = some (r, s') → V Γ D B true 5 (QM Γ D B true s' (some (.int r)) 0 0) 0 0 s 86 [(0, .ref (B + 39)), (1, .int l1), (2, .int l2), (3, .int l3), (4, .int l4)] [] := by
  intro n
  induction n with
  | zero => intro s l1 l2 l3 l4 hf; rw [f_M_pass_b86] at hf; cases hf
  | succ n ih =>
    intro s l1 l2 l3 l4 hf
    rw [f_M_pass_b86] at hf
    refine r_iload (pc := 86) X dX11_pass_86 4 rfl ?_
    refine r_aload_n (x := some 39) (pc := 88) X dX11_pass_88 0 rfl ?_
    refine r_get (j := 40) (pc := 89) X ce_39 rfl inT11 (by decide) w_1120 rfl dX11_pass_89 ?_
    refine b_icmp_ge (tgt := 116) (pc := 92) X dX11_pass_92 (by decide) hf (fun hf => ?_) (fun hf => ?_)
    · refine r_iinc (v := l3 + 1) (lv' := [(0, .ref (B + 39)), (1, .int l1), (2, .int l2), (3, .int (l3 + 1))]) (pc := 116) X dX11_pass_116 3 rfl rfl (by decide) [1, 2, 3, 0] rfl ?_
      refine r_goto (tgt := 47) (pc := 119) X dX11_pass_119 (by decide) ?_
      exact hK47 hf
    · refine r_aload_n (x := some 39) (pc := 95) X dX11_pass_95 0 rfl ?_
      refine r_iload (pc := 96) X dX11_pass_96 4 rfl ?_
      refine bnd hf (fun x5 h5 hf => ?_)
      refine r_callVi (As := [.int l4]) (st := []) (pc := 98) X (c_f_M_isRisen h5) rfl w_1428 w_1430 w_66 w_84 w_1431 hdV_X11_isRisen (Rc.s rfl ce_39) (by decide) (by decide) (by decide) (Nat.le_of_ble_eq_true rfl) dX11_pass_98 rfl ?_
      refine b_if_eq (tgt := 110) (pc := 101) X dX11_pass_101 (by decide) hf (fun hf => ?_) (fun hf => ?_)
      · refine r_iinc (v := l4 + 1) (lv' := [(0, .ref (B + 39)), (1, .int l1), (2, .int l2), (3, .int l3), (4, .int (l4 + 1))]) (pc := 110) X dX11_pass_110 4 rfl rfl (by decide) [1, 2, 3, 4, 0] rfl ?_
        refine r_goto (tgt := 86) (pc := 113) X dX11_pass_113 (by decide) ?_
        exact ih hf
      · refine r_aload_n (x := some 39) (pc := 104) X dX11_pass_104 0 rfl ?_
        refine r_iload (pc := 105) X dX11_pass_105 4 rfl ?_
        refine bnd hf (fun x6 h6 hf => ?_)
        refine r_callVv (As := [.int l4]) (st := []) (pc := 107) X (c_f_M_raises h6) rfl w_1436 w_1438 w_68 w_84 w_1439 hdV_X11_raises (Rc.s rfl ce_39) (by decide) (by decide) (by decide) (Nat.le_of_ble_eq_true rfl) dX11_pass_107 rfl ?_
        refine r_iinc (v := l4 + 1) (lv' := [(0, .ref (B + 39)), (1, .int l1), (2, .int l2), (3, .int l3), (4, .int (l4 + 1))]) (pc := 110) X dX11_pass_110 4 rfl rfl (by decide) [1, 2, 3, 4, 0] rfl ?_
        refine r_goto (tgt := 86) (pc := 113) X dX11_pass_113 (by decide) ?_
        exact ih hf
set_option maxHeartbeats 1000000 in
theorem c_f_M_pass_b47 {F : Nat} {Γ : Ga} {D : DD} {B : Nat} {r : Int32} {s' : St} (X : Cx Γ RX11 cX11_pass 5 D B { frames := 7, cells := 0, slots := 0, locals := 181 }) (hr : (Gme Γ).sig.returnType = (some .int)) : ∀ (n : Nat) {s : St} {l1 : Int32} {l2 : Int32} {l3 : Int32}, f_M_pass_b47 F n s l1 l2 l3 = some (r, s') → V Γ D B true 5 (QM Γ D B true s' (some (.int r)) 0 0) 0 0 s 47 [(0, .ref (B + 39)), (1, .int l1), (2, .int l2), (3, .int l3)] [] := by
  intro n
  induction n with
  | zero => intro s l1 l2 l3 hf; rw [f_M_pass_b47] at hf; cases hf
  | succ n ih =>
    intro s l1 l2 l3 hf
    rw [f_M_pass_b47] at hf
    refine r_iload_n (pc := 47) X dX11_pass_47 3 rfl ?_
    refine r_iload_n (pc := 48) X dX11_pass_48 1 rfl ?_
    refine b_icmp_ge (tgt := 122) (pc := 49) X dX11_pass_49 (by decide) hf (fun hf => ?_) (fun hf => ?_)
    · refine r_aload_n (x := some 39) (pc := 122) X dX11_pass_122 0 rfl ?_
      refine r_get (j := 50) (pc := 123) X ce_39 rfl inT11 (by decide) w_1130 rfl dX11_pass_123 ?_
      refine r_iload_n (pc := 126) X dX11_pass_126 2 rfl ?_
      refine r_isub (pc := 127) X dX11_pass_127 ?_
      exact e_iret (pc := 128) X hr hf (Nat.le_refl _) (Nat.le_refl _) dX11_pass_128
    · refine r_aload_n (x := some 39) (pc := 52) X dX11_pass_52 0 rfl ?_
      refine r_dup (pc := 53) X dX11_pass_53 rfl ?_
      refine r_get (j := 30) (pc := 54) X ce_39 rfl inT11 (by decide) w_1110 rfl dX11_pass_54 ?_
      refine r_iconst (v := 1) (pc := 57) X dX11_pass_57 (by decide) ?_
      refine r_iadd (pc := 58) X dX11_pass_58 ?_
      refine b_put (j := 30) (pc := 59) X ce_39 rfl inT11 tyX11 tyX11_ok nmX11 (by decide) w_1110 rfl (tyX11_ok 30 (by decide)) rfl rfl (Nat.le_of_ble_eq_true rfl) (cp_2526 _) rfl rfl dX11_pass_59 hf (fun s3 hf => ?_)
      refine r_aload_n (x := some 39) (pc := 62) X dX11_pass_62 0 rfl ?_
      refine r_get (j := 30) (pc := 63) X ce_39 rfl inT11 (by decide) w_1110 rfl dX11_pass_63 ?_
      refine r_bipush (v := 8) (pc := 66) X dX11_pass_66 (by decide) ?_
      refine r_irem (pc := 68) X dX11_pass_68 (by decide) ?_
      refine b_if_ne (tgt := 83) (pc := 69) X dX11_pass_69 (by decide) hf (fun hf => ?_) (fun hf => ?_)
      · refine r_aload_n (x := some 39) (pc := 72) X dX11_pass_72 0 rfl ?_
        refine r_aload_n (x := some 39) (pc := 73) X dX11_pass_73 0 rfl ?_
        refine r_get (j := 30) (pc := 74) X ce_39 rfl inT11 (by decide) w_1110 rfl dX11_pass_74 ?_
        refine r_bipush (v := 8) (pc := 77) X dX11_pass_77 (by decide) ?_
        refine r_idiv (pc := 79) X dX11_pass_79 (by decide) ?_
        refine bnd hf (fun x4 h4 hf => ?_)
        refine r_callVv (As := [.int ((gI s3 2526) / 8)]) (st := []) (pc := 80) X (c_f_M_begins h4) rfl w_1401 w_1403 w_60 w_84 w_1404 hdV_X11_begins (Rc.s rfl ce_39) (by decide) (by decide) (by decide) (Nat.le_of_ble_eq_true rfl) dX11_pass_80 rfl ?_
        refine r_iconst (v := 0) (pc := 83) X dX11_pass_83 (by decide) ?_
        refine r_istore (pc := 84) (lv' := [(0, .ref (B + 39)), (1, .int l1), (2, .int l2), (3, .int l3), (4, .int 0)]) X dX11_pass_84 (by decide) [1, 2, 3, 4, 0] rfl ?_
        exact c_f_M_pass_b86 X hr (fun hf => ih hf) _ hf
      · refine r_iconst (v := 0) (pc := 83) X dX11_pass_83 (by decide) ?_
        refine r_istore (pc := 84) (lv' := [(0, .ref (B + 39)), (1, .int l1), (2, .int l2), (3, .int l3), (4, .int 0)]) X dX11_pass_84 (by decide) [1, 2, 3, 4, 0] rfl ?_
        exact c_f_M_pass_b86 X hr (fun hf => ih hf) _ hf
set_option maxHeartbeats 1000000 in
theorem c_f_M_pass {F : Nat} {s : St} {p1 : Int32} {r : Int32} {s' : St} (hf : f_M_pass F s p1 = some (r, s')) : CC true yX11_pass (Cond.code yX11_pass cX11_pass 5 (some .int)) 7 181 (fun B => [.ref (B + 39), .int p1]) s (fun B => (some (.int r))) s' 0 0 := by
  refine CC.of (fun B => [(0, .ref (B + 39)), (1, .int p1)]) (by decide +kernel) (fun _ => rfl) (fun _ => (by simp [lg_sl, rfB_cat, catI, catL, catR])) (fun Γ D B X hr hin => ?_)
  have X : Cx Γ RX11 cX11_pass 5 D B { frames := 7, cells := 0, slots := 0, locals := 181 } := X
  unfold f_M_pass at hf
  refine r_aload_n (x := some 39) (pc := 0) X dX11_pass_0 0 rfl ?_
  refine r_iload_n (pc := 1) X dX11_pass_1 1 rfl ?_
  refine r_iconst (v := 1) (pc := 2) X dX11_pass_2 (by decide) ?_
  refine r_bipush (v := 24) (pc := 3) X dX11_pass_3 (by decide) ?_
  refine bnd hf (fun x1 h1 hf => ?_)
  refine r_callSi (As := [.int p1, .int 1, .int 24]) (st := [.ref (B + 39)]) (pc := 5) X (c_f_M_isIn h1) rfl w_1257 w_1258 w_84 w_1259 hdS_X11_isIn (by decide) (by decide) (by decide) (Nat.le_of_ble_eq_true rfl) dX11_pass_5 rfl ?_
  refine b_if_ne (tgt := 15) (pc := 8) X dX11_pass_8 (by decide) hf (fun hf => ?_) (fun hf => ?_)
  · refine r_iconst (v := 1) (pc := 11) X dX11_pass_11 (by decide) ?_
    refine r_goto (tgt := 32) (pc := 12) X dX11_pass_12 (by decide) ?_
    refine bnd hf (fun x2 h2 hf => ?_)
    refine r_callVi (As := [.int 1]) (st := []) (pc := 32) X (c_f_M_goes h2) rfl w_1260 w_1262 w_35 w_84 w_1263 hdV_X11_goes (Rc.s rfl ce_39) (by decide) (by decide) (by decide) (Nat.le_of_ble_eq_true rfl) dX11_pass_32 rfl ?_
    refine b_if_ne (tgt := 40) (pc := 35) X dX11_pass_35 (by decide) hf (fun hf => ?_) (fun hf => ?_)
    · refine r_iconst (v := 0) (pc := 38) X dX11_pass_38 (by decide) ?_
      exact e_iret (pc := 39) X hr hf (Nat.le_refl _) (Nat.le_refl _) dX11_pass_39
    · refine r_aload_n (x := some 39) (pc := 40) X dX11_pass_40 0 rfl ?_
      refine r_get (j := 50) (pc := 41) X ce_39 rfl inT11 (by decide) w_1130 rfl dX11_pass_41 ?_
      refine r_istore_n (pc := 44) (lv' := [(0, .ref (B + 39)), (1, .int p1), (2, .int (gI x2.2 2546))]) X dX11_pass_44 (by decide) [1, 2, 0] rfl ?_
      refine r_iconst (v := 0) (pc := 45) X dX11_pass_45 (by decide) ?_
      refine r_istore_n (pc := 46) (lv' := [(0, .ref (B + 39)), (1, .int p1), (2, .int (gI x2.2 2546)), (3, .int 0)]) X dX11_pass_46 (by decide) [1, 2, 3, 0] rfl ?_
      exact c_f_M_pass_b47 X hr _ hf
  · refine r_aload_n (x := some 39) (pc := 15) X dX11_pass_15 0 rfl ?_
    refine r_get (j := 30) (pc := 16) X ce_39 rfl inT11 (by decide) w_1110 rfl dX11_pass_16 ?_
    refine r_iload_n (pc := 19) X dX11_pass_19 1 rfl ?_
    refine r_iadd (pc := 20) X dX11_pass_20 ?_
    refine r_sipush (v := 1000) (pc := 21) X dX11_pass_21 (by decide) ?_
    refine b_icmp_le (tgt := 31) (pc := 24) X dX11_pass_24 (by decide) hf (fun hf => ?_) (fun hf => ?_)
    · refine r_iconst (v := 0) (pc := 31) X dX11_pass_31 (by decide) ?_
      refine bnd hf (fun x7 h7 hf => ?_)
      refine r_callVi (As := [.int 0]) (st := []) (pc := 32) X (c_f_M_goes h7) rfl w_1260 w_1262 w_35 w_84 w_1263 hdV_X11_goes (Rc.s rfl ce_39) (by decide) (by decide) (by decide) (Nat.le_of_ble_eq_true rfl) dX11_pass_32 rfl ?_
      refine b_if_ne (tgt := 40) (pc := 35) X dX11_pass_35 (by decide) hf (fun hf => ?_) (fun hf => ?_)
      · refine r_iconst (v := 0) (pc := 38) X dX11_pass_38 (by decide) ?_
        exact e_iret (pc := 39) X hr hf (Nat.le_refl _) (Nat.le_refl _) dX11_pass_39
      · refine r_aload_n (x := some 39) (pc := 40) X dX11_pass_40 0 rfl ?_
        refine r_get (j := 50) (pc := 41) X ce_39 rfl inT11 (by decide) w_1130 rfl dX11_pass_41 ?_
        refine r_istore_n (pc := 44) (lv' := [(0, .ref (B + 39)), (1, .int p1), (2, .int (gI x7.2 2546))]) X dX11_pass_44 (by decide) [1, 2, 0] rfl ?_
        refine r_iconst (v := 0) (pc := 45) X dX11_pass_45 (by decide) ?_
        refine r_istore_n (pc := 46) (lv' := [(0, .ref (B + 39)), (1, .int p1), (2, .int (gI x7.2 2546)), (3, .int 0)]) X dX11_pass_46 (by decide) [1, 2, 3, 0] rfl ?_
        exact c_f_M_pass_b47 X hr _ hf
    · refine r_iconst (v := 2) (pc := 27) X dX11_pass_27 (by decide) ?_
      refine r_goto (tgt := 32) (pc := 28) X dX11_pass_28 (by decide) ?_
      refine bnd hf (fun x8 h8 hf => ?_)
      refine r_callVi (As := [.int 2]) (st := []) (pc := 32) X (c_f_M_goes h8) rfl w_1260 w_1262 w_35 w_84 w_1263 hdV_X11_goes (Rc.s rfl ce_39) (by decide) (by decide) (by decide) (Nat.le_of_ble_eq_true rfl) dX11_pass_32 rfl ?_
      refine b_if_ne (tgt := 40) (pc := 35) X dX11_pass_35 (by decide) hf (fun hf => ?_) (fun hf => ?_)
      · refine r_iconst (v := 0) (pc := 38) X dX11_pass_38 (by decide) ?_
        exact e_iret (pc := 39) X hr hf (Nat.le_refl _) (Nat.le_refl _) dX11_pass_39
      · refine r_aload_n (x := some 39) (pc := 40) X dX11_pass_40 0 rfl ?_
        refine r_get (j := 50) (pc := 41) X ce_39 rfl inT11 (by decide) w_1130 rfl dX11_pass_41 ?_
        refine r_istore_n (pc := 44) (lv' := [(0, .ref (B + 39)), (1, .int p1), (2, .int (gI x8.2 2546))]) X dX11_pass_44 (by decide) [1, 2, 0] rfl ?_
        refine r_iconst (v := 0) (pc := 45) X dX11_pass_45 (by decide) ?_
        refine r_istore_n (pc := 46) (lv' := [(0, .ref (B + 39)), (1, .int p1), (2, .int (gI x8.2 2546)), (3, .int 0)]) X dX11_pass_46 (by decide) [1, 2, 3, 0] rfl ?_
        exact c_f_M_pass_b47 X hr _ hf
/-! f_M_now -/
theorem dX11_now_0 : decode cX11_now 0 = .ok (.aload_n 0, 1) := by decide +kernel
theorem dX11_now_1 : decode cX11_now 1 = .ok (.iconst 0, 1) := by decide +kernel
theorem dX11_now_2 : decode cX11_now 2 = .ok (.putfield 102, 3) := by decide +kernel
theorem dX11_now_5 : decode cX11_now 5 = .ok (.aload_n 0, 1) := by decide +kernel
theorem dX11_now_6 : decode cX11_now 6 = .ok (.getfield 269, 3) := by decide +kernel
theorem dX11_now_9 : decode cX11_now 9 = .ok (.ireturn, 1) := by decide +kernel
def f_M_now (F : Nat) (s : St)  : Option (Int32 × St) :=
  lt (sI s 2551 0) fun s1 => (some ((gI s1 2526), s1))
set_option maxHeartbeats 1000000 in
theorem c_f_M_now {F : Nat} {s : St}  {r : Int32} {s' : St} (hf : f_M_now F s  = some (r, s')) : CC true yX11_now (Cond.code yX11_now cX11_now 1 (some .int)) 0 0 (fun B => [.ref (B + 39)]) s (fun B => (some (.int r))) s' 0 0 := by
  refine CC.of (fun B => [(0, .ref (B + 39))]) (by decide +kernel) (fun _ => rfl) (fun _ => (by simp [lg_sl, rfB_cat, catI, catL, catR])) (fun Γ D B X hr hin => ?_)
  have X : Cx Γ RX11 cX11_now 1 D B { frames := 0, cells := 0, slots := 0, locals := 0 } := X
  unfold f_M_now at hf
  refine r_aload_n (x := some 39) (pc := 0) X dX11_now_0 0 rfl ?_
  refine r_iconst (v := 0) (pc := 1) X dX11_now_1 (by decide) ?_
  refine b_put (j := 55) (pc := 2) X ce_39 rfl inT11 tyX11 tyX11_ok nmX11 (by decide) w_1135 rfl (tyX11_ok 55 (by decide)) rfl rfl (Nat.le_of_ble_eq_true rfl) (cp_2551 _) rfl rfl dX11_now_2 hf (fun s1 hf => ?_)
  refine r_aload_n (x := some 39) (pc := 5) X dX11_now_5 0 rfl ?_
  refine r_get (j := 30) (pc := 6) X ce_39 rfl inT11 (by decide) w_1110 rfl dX11_now_6 ?_
  exact e_iret (pc := 9) X hr hf (Nat.le_refl _) (Nat.le_refl _) dX11_now_9
/-! f_M_log -/
theorem dX11_log_0 : decode cX11_log 0 = .ok (.iload_n 1, 1) := by decide +kernel
theorem dX11_log_1 : decode cX11_log 1 = .ok (.iconst 0, 1) := by decide +kernel
theorem dX11_log_2 : decode cX11_log 2 = .ok (.bipush 7, 2) := by decide +kernel
theorem dX11_log_4 : decode cX11_log 4 = .ok (.invokestatic 109, 3) := by decide +kernel
theorem dX11_log_7 : decode cX11_log 7 = .ok (.ifCond .eq 42, 3) := by decide +kernel
theorem dX11_log_10 : decode cX11_log 10 = .ok (.iload_n 2, 1) := by decide +kernel
theorem dX11_log_11 : decode cX11_log 11 = .ok (.iconst 0, 1) := by decide +kernel
theorem dX11_log_12 : decode cX11_log 12 = .ok (.iconst 5, 1) := by decide +kernel
theorem dX11_log_13 : decode cX11_log 13 = .ok (.invokestatic 109, 3) := by decide +kernel
theorem dX11_log_16 : decode cX11_log 16 = .ok (.ifCond .eq 33, 3) := by decide +kernel
theorem dX11_log_19 : decode cX11_log 19 = .ok (.iload_n 3, 1) := by decide +kernel
theorem dX11_log_20 : decode cX11_log 20 = .ok (.sipush (-1000), 3) := by decide +kernel
theorem dX11_log_23 : decode cX11_log 23 = .ok (.sipush 1000, 3) := by decide +kernel
theorem dX11_log_26 : decode cX11_log 26 = .ok (.invokestatic 109, 3) := by decide +kernel
theorem dX11_log_29 : decode cX11_log 29 = .ok (.ifCond .eq 20, 3) := by decide +kernel
theorem dX11_log_32 : decode cX11_log 32 = .ok (.iload 4, 2) := by decide +kernel
theorem dX11_log_34 : decode cX11_log 34 = .ok (.iconst 0, 1) := by decide +kernel
theorem dX11_log_35 : decode cX11_log 35 = .ok (.aload_n 0, 1) := by decide +kernel
theorem dX11_log_36 : decode cX11_log 36 = .ok (.getfield 269, 3) := by decide +kernel
theorem dX11_log_39 : decode cX11_log 39 = .ok (.invokestatic 109, 3) := by decide +kernel
theorem dX11_log_42 : decode cX11_log 42 = .ok (.ifCond .eq 7, 3) := by decide +kernel
theorem dX11_log_45 : decode cX11_log 45 = .ok (.iconst 1, 1) := by decide +kernel
theorem dX11_log_46 : decode cX11_log 46 = .ok (.goto 4, 3) := by decide +kernel
theorem dX11_log_49 : decode cX11_log 49 = .ok (.iconst 0, 1) := by decide +kernel
theorem dX11_log_50 : decode cX11_log 50 = .ok (.istore 5, 2) := by decide +kernel
theorem dX11_log_52 : decode cX11_log 52 = .ok (.aload_n 0, 1) := by decide +kernel
theorem dX11_log_53 : decode cX11_log 53 = .ok (.iload 5, 2) := by decide +kernel
theorem dX11_log_55 : decode cX11_log 55 = .ok (.ifCond .ne 7, 3) := by decide +kernel
theorem dX11_log_58 : decode cX11_log 58 = .ok (.iconst 1, 1) := by decide +kernel
theorem dX11_log_59 : decode cX11_log 59 = .ok (.goto 17, 3) := by decide +kernel
theorem dX11_log_62 : decode cX11_log 62 = .ok (.aload_n 0, 1) := by decide +kernel
theorem dX11_log_63 : decode cX11_log 63 = .ok (.getfield 245, 3) := by decide +kernel
theorem dX11_log_66 : decode cX11_log 66 = .ok (.bipush 100, 2) := by decide +kernel
theorem dX11_log_68 : decode cX11_log 68 = .ok (.if_icmp .ne 7, 3) := by decide +kernel
theorem dX11_log_71 : decode cX11_log 71 = .ok (.iconst 2, 1) := by decide +kernel
theorem dX11_log_72 : decode cX11_log 72 = .ok (.goto 4, 3) := by decide +kernel
theorem dX11_log_75 : decode cX11_log 75 = .ok (.iconst 0, 1) := by decide +kernel
theorem dX11_log_76 : decode cX11_log 76 = .ok (.invokevirtual 263, 3) := by decide +kernel
theorem dX11_log_79 : decode cX11_log 79 = .ok (.ifCond .ne 5, 3) := by decide +kernel
theorem dX11_log_82 : decode cX11_log 82 = .ok (.iconst 0, 1) := by decide +kernel
theorem dX11_log_83 : decode cX11_log 83 = .ok (.ireturn, 1) := by decide +kernel
theorem dX11_log_84 : decode cX11_log 84 = .ok (.aload_n 0, 1) := by decide +kernel
theorem dX11_log_85 : decode cX11_log 85 = .ok (.getfield 245, 3) := by decide +kernel
theorem dX11_log_88 : decode cX11_log 88 = .ok (.istore 6, 2) := by decide +kernel
theorem dX11_log_90 : decode cX11_log 90 = .ok (.iload 6, 2) := by decide +kernel
theorem dX11_log_92 : decode cX11_log 92 = .ok (.ifCond .le 87, 3) := by decide +kernel
theorem dX11_log_95 : decode cX11_log 95 = .ok (.aload_n 0, 1) := by decide +kernel
theorem dX11_log_96 : decode cX11_log 96 = .ok (.getfield 57, 3) := by decide +kernel
theorem dX11_log_99 : decode cX11_log 99 = .ok (.iload 6, 2) := by decide +kernel
theorem dX11_log_101 : decode cX11_log 101 = .ok (.iconst 1, 1) := by decide +kernel
theorem dX11_log_102 : decode cX11_log 102 = .ok (.isub, 1) := by decide +kernel
theorem dX11_log_103 : decode cX11_log 103 = .ok (.iaload, 1) := by decide +kernel
theorem dX11_log_104 : decode cX11_log 104 = .ok (.iload 4, 2) := by decide +kernel
theorem dX11_log_106 : decode cX11_log 106 = .ok (.if_icmp .le 73, 3) := by decide +kernel
theorem dX11_log_109 : decode cX11_log 109 = .ok (.aload_n 0, 1) := by decide +kernel
theorem dX11_log_110 : decode cX11_log 110 = .ok (.getfield 48, 3) := by decide +kernel
theorem dX11_log_113 : decode cX11_log 113 = .ok (.iload 6, 2) := by decide +kernel
theorem dX11_log_115 : decode cX11_log 115 = .ok (.aload_n 0, 1) := by decide +kernel
theorem dX11_log_116 : decode cX11_log 116 = .ok (.getfield 48, 3) := by decide +kernel
theorem dX11_log_119 : decode cX11_log 119 = .ok (.iload 6, 2) := by decide +kernel
theorem dX11_log_121 : decode cX11_log 121 = .ok (.iconst 1, 1) := by decide +kernel
theorem dX11_log_122 : decode cX11_log 122 = .ok (.isub, 1) := by decide +kernel
theorem dX11_log_123 : decode cX11_log 123 = .ok (.iaload, 1) := by decide +kernel
theorem dX11_log_124 : decode cX11_log 124 = .ok (.iastore, 1) := by decide +kernel
theorem dX11_log_125 : decode cX11_log 125 = .ok (.aload_n 0, 1) := by decide +kernel
theorem dX11_log_126 : decode cX11_log 126 = .ok (.getfield 51, 3) := by decide +kernel
theorem dX11_log_129 : decode cX11_log 129 = .ok (.iload 6, 2) := by decide +kernel
theorem dX11_log_131 : decode cX11_log 131 = .ok (.aload_n 0, 1) := by decide +kernel
theorem dX11_log_132 : decode cX11_log 132 = .ok (.getfield 51, 3) := by decide +kernel
theorem dX11_log_135 : decode cX11_log 135 = .ok (.iload 6, 2) := by decide +kernel
theorem dX11_log_137 : decode cX11_log 137 = .ok (.iconst 1, 1) := by decide +kernel
theorem dX11_log_138 : decode cX11_log 138 = .ok (.isub, 1) := by decide +kernel
theorem dX11_log_139 : decode cX11_log 139 = .ok (.iaload, 1) := by decide +kernel
theorem dX11_log_140 : decode cX11_log 140 = .ok (.iastore, 1) := by decide +kernel
theorem dX11_log_141 : decode cX11_log 141 = .ok (.aload_n 0, 1) := by decide +kernel
theorem dX11_log_142 : decode cX11_log 142 = .ok (.getfield 54, 3) := by decide +kernel
theorem dX11_log_145 : decode cX11_log 145 = .ok (.iload 6, 2) := by decide +kernel
theorem dX11_log_147 : decode cX11_log 147 = .ok (.aload_n 0, 1) := by decide +kernel
theorem dX11_log_148 : decode cX11_log 148 = .ok (.getfield 54, 3) := by decide +kernel
theorem dX11_log_151 : decode cX11_log 151 = .ok (.iload 6, 2) := by decide +kernel
theorem dX11_log_153 : decode cX11_log 153 = .ok (.iconst 1, 1) := by decide +kernel
theorem dX11_log_154 : decode cX11_log 154 = .ok (.isub, 1) := by decide +kernel
theorem dX11_log_155 : decode cX11_log 155 = .ok (.iaload, 1) := by decide +kernel
theorem dX11_log_156 : decode cX11_log 156 = .ok (.iastore, 1) := by decide +kernel
theorem dX11_log_157 : decode cX11_log 157 = .ok (.aload_n 0, 1) := by decide +kernel
theorem dX11_log_158 : decode cX11_log 158 = .ok (.getfield 57, 3) := by decide +kernel
theorem dX11_log_161 : decode cX11_log 161 = .ok (.iload 6, 2) := by decide +kernel
theorem dX11_log_163 : decode cX11_log 163 = .ok (.aload_n 0, 1) := by decide +kernel
theorem dX11_log_164 : decode cX11_log 164 = .ok (.getfield 57, 3) := by decide +kernel
theorem dX11_log_167 : decode cX11_log 167 = .ok (.iload 6, 2) := by decide +kernel
theorem dX11_log_169 : decode cX11_log 169 = .ok (.iconst 1, 1) := by decide +kernel
theorem dX11_log_170 : decode cX11_log 170 = .ok (.isub, 1) := by decide +kernel
theorem dX11_log_171 : decode cX11_log 171 = .ok (.iaload, 1) := by decide +kernel
theorem dX11_log_172 : decode cX11_log 172 = .ok (.iastore, 1) := by decide +kernel
theorem dX11_log_173 : decode cX11_log 173 = .ok (.iinc 6 (-1), 3) := by decide +kernel
theorem dX11_log_176 : decode cX11_log 176 = .ok (.goto (-86), 3) := by decide +kernel
theorem dX11_log_179 : decode cX11_log 179 = .ok (.aload_n 0, 1) := by decide +kernel
theorem dX11_log_180 : decode cX11_log 180 = .ok (.getfield 48, 3) := by decide +kernel
theorem dX11_log_183 : decode cX11_log 183 = .ok (.iload 6, 2) := by decide +kernel
theorem dX11_log_185 : decode cX11_log 185 = .ok (.iload_n 1, 1) := by decide +kernel
theorem dX11_log_186 : decode cX11_log 186 = .ok (.iastore, 1) := by decide +kernel
theorem dX11_log_187 : decode cX11_log 187 = .ok (.aload_n 0, 1) := by decide +kernel
theorem dX11_log_188 : decode cX11_log 188 = .ok (.getfield 51, 3) := by decide +kernel
theorem dX11_log_191 : decode cX11_log 191 = .ok (.iload 6, 2) := by decide +kernel
theorem dX11_log_193 : decode cX11_log 193 = .ok (.iload_n 2, 1) := by decide +kernel
theorem dX11_log_194 : decode cX11_log 194 = .ok (.iastore, 1) := by decide +kernel
theorem dX11_log_195 : decode cX11_log 195 = .ok (.aload_n 0, 1) := by decide +kernel
theorem dX11_log_196 : decode cX11_log 196 = .ok (.getfield 54, 3) := by decide +kernel
theorem dX11_log_199 : decode cX11_log 199 = .ok (.iload 6, 2) := by decide +kernel
theorem dX11_log_201 : decode cX11_log 201 = .ok (.iload_n 3, 1) := by decide +kernel
theorem dX11_log_202 : decode cX11_log 202 = .ok (.iastore, 1) := by decide +kernel
theorem dX11_log_203 : decode cX11_log 203 = .ok (.aload_n 0, 1) := by decide +kernel
theorem dX11_log_204 : decode cX11_log 204 = .ok (.getfield 57, 3) := by decide +kernel
theorem dX11_log_207 : decode cX11_log 207 = .ok (.iload 6, 2) := by decide +kernel
theorem dX11_log_209 : decode cX11_log 209 = .ok (.iload 4, 2) := by decide +kernel
theorem dX11_log_211 : decode cX11_log 211 = .ok (.iastore, 1) := by decide +kernel
theorem dX11_log_212 : decode cX11_log 212 = .ok (.aload_n 0, 1) := by decide +kernel
theorem dX11_log_213 : decode cX11_log 213 = .ok (.dup, 1) := by decide +kernel
theorem dX11_log_214 : decode cX11_log 214 = .ok (.getfield 245, 3) := by decide +kernel
theorem dX11_log_217 : decode cX11_log 217 = .ok (.iconst 1, 1) := by decide +kernel
theorem dX11_log_218 : decode cX11_log 218 = .ok (.iadd, 1) := by decide +kernel
theorem dX11_log_219 : decode cX11_log 219 = .ok (.putfield 245, 3) := by decide +kernel
theorem dX11_log_222 : decode cX11_log 222 = .ok (.aload_n 0, 1) := by decide +kernel
theorem dX11_log_223 : decode cX11_log 223 = .ok (.getfield 245, 3) := by decide +kernel
theorem dX11_log_226 : decode cX11_log 226 = .ok (.iconst 1, 1) := by decide +kernel
theorem dX11_log_227 : decode cX11_log 227 = .ok (.isub, 1) := by decide +kernel
theorem dX11_log_228 : decode cX11_log 228 = .ok (.ireturn, 1) := by decide +kernel
def f_M_log_b179 (F : Nat) (s : St) (l1 : Int32) (l2 : Int32) (l3 : Int32) (l4 : Int32) (l6 : Int32) : Option (Int32 × St) :=
  (ix 100 l6).bind fun j3 => (lt (sA s 52 j3 l1) fun s4 => ((ix 100 l6).bind fun j5 => (lt (sA s4 53 j5 l2) fun s6 => ((ix 100 l6).bind fun j7 => (lt (sA s6 54 j7 l3) fun s8 => ((ix 100 l6).bind fun j9 => (lt (sA s8 55 j9 l4) fun s10 => (lt (sI s10 2527 ((gI s10 2527) + 1)) fun s11 => (some (((gI s11 2527) - 1), s11))))))))))
def f_M_log_b90 (F : Nat) : Nat → St → Int32 → Int32 → Int32 → Int32 → Int32 → Option (Int32 × St)
  | 0, _, _, _, _, _, _ => none
  | n + 1, s, l1, l2, l3, l4, l6 =>
    if l6 ≤ 0 then
      (f_M_log_b179 F s l1 l2 l3 l4 l6)
    else
      ((ix 100 (l6 - 1)).bind fun j12 => (if (gA s 55 j12) ≤ l4 then
        (f_M_log_b179 F s l1 l2 l3 l4 l6)
      else
        ((ix 100 (l6 - 1)).bind fun j13 => ((ix 100 l6).bind fun j14 => (lt (sA s 52 j14 (gA s 52 j13)) fun s15 => ((ix 100 (l6 - 1)).bind fun j16 => ((ix 100 l6).bind fun j17 => (lt (sA s15 53 j17 (gA s15 53 j16)) fun s18 => ((ix 100 (l6 - 1)).bind fun j19 => ((ix 100 l6).bind fun j20 => (lt (sA s18 54 j20 (gA s18 54 j19)) fun s21 => ((ix 100 (l6 - 1)).bind fun j22 => ((ix 100 l6).bind fun j23 => (lt (sA s21 55 j23 (gA s21 55 j22)) fun s24 => (f_M_log_b90 F n s24 l1 l2 l3 l4 (l6 + (-1)))))))))))))))))
def f_M_log_b50 (F : Nat) (s : St) (l1 : Int32) (l2 : Int32) (l3 : Int32) (l4 : Int32) (t0 : Int32) : Option (Int32 × St) :=
  if t0 = 0 then
    ((f_M_goes F s 1).bind fun x2 => (if x2.1 = 0 then
      (some (0, x2.2))
    else
      (f_M_log_b90 F F x2.2 l1 l2 l3 l4 (gI x2.2 2527))))
  else
    (if (gI s 2527) = 100 then
      ((f_M_goes F s 2).bind fun x25 => (if x25.1 = 0 then
        (some (0, x25.2))
      else
        (f_M_log_b90 F F x25.2 l1 l2 l3 l4 (gI x25.2 2527))))
    else
      ((f_M_goes F s 0).bind fun x26 => (if x26.1 = 0 then
        (some (0, x26.2))
      else
        (f_M_log_b90 F F x26.2 l1 l2 l3 l4 (gI x26.2 2527)))))
def f_M_log (F : Nat) (s : St) (p1 : Int32) (p2 : Int32) (p3 : Int32) (p4 : Int32) : Option (Int32 × St) :=
  (f_M_isIn F s p1 0 7).bind fun x1 => (if x1.1 = 0 then
    (f_M_log_b50 F x1.2 p1 p2 p3 p4 0)
  else
    ((f_M_isIn F x1.2 p2 0 5).bind fun x27 => (if x27.1 = 0 then
      (f_M_log_b50 F x27.2 p1 p2 p3 p4 0)
    else
      ((f_M_isIn F x27.2 p3 (-1000) 1000).bind fun x28 => (if x28.1 = 0 then
        (f_M_log_b50 F x28.2 p1 p2 p3 p4 0)
      else
        ((f_M_isIn F x28.2 p4 0 (gI x28.2 2526)).bind fun x29 => (if x29.1 = 0 then
          (f_M_log_b50 F x29.2 p1 p2 p3 p4 0)
        else
          (f_M_log_b50 F x29.2 p1 p2 p3 p4 1))))))))
set_option maxHeartbeats 1000000 in
theorem c_f_M_log_b179 {F : Nat} {Γ : Ga} {D : DD} {B : Nat} {r : Int32} {s' : St} (X : Cx Γ RX11 cX11_log 7 D B { frames := 1, cells := 0, slots := 0, locals := 22 }) (hr : (Gme Γ).sig.returnType = (some .int)) {s : St} {l1 : Int32} {l2 : Int32} {l3 : Int32} {l4 : Int32} {l6 : Int32} (hf : f_M_log_b179 F s l1 l2 l3 l4 l6 = some (r, s')) : V Γ D B true 7 (QM Γ D B true s' (some (.int r)) 0 0) 0 0 s 179 [(0, .ref (B + 39)), (1, .int l1), (2, .int l2), (3, .int l3), (4, .int l4), (6, .int l6)] [] := by
  unfold f_M_log_b179 at hf
  refine r_aload_n (x := some 39) (pc := 179) X dX11_log_179 0 rfl ?_
  refine r_get (j := 32) (pc := 180) X ce_39 rfl inT11 (by decide) w_1112 rfl dX11_log_180 ?_
  refine r_iload (pc := 183) X dX11_log_183 5 rfl ?_
  refine r_iload_n (pc := 185) X dX11_log_185 1 rfl ?_
  refine b_iast (pc := 186) X ce_52 (fun _ => ca_52 _ _) dX11_log_186 hf (fun j3 s4 hf => ?_)
  refine r_aload_n (x := some 39) (pc := 187) X dX11_log_187 0 rfl ?_
  refine r_get (j := 33) (pc := 188) X ce_39 rfl inT11 (by decide) w_1113 rfl dX11_log_188 ?_
  refine r_iload (pc := 191) X dX11_log_191 5 rfl ?_
  refine r_iload_n (pc := 193) X dX11_log_193 2 rfl ?_
  refine b_iast (pc := 194) X ce_53 (fun _ => ca_53 _ _) dX11_log_194 hf (fun j5 s6 hf => ?_)
  refine r_aload_n (x := some 39) (pc := 195) X dX11_log_195 0 rfl ?_
  refine r_get (j := 34) (pc := 196) X ce_39 rfl inT11 (by decide) w_1114 rfl dX11_log_196 ?_
  refine r_iload (pc := 199) X dX11_log_199 5 rfl ?_
  refine r_iload_n (pc := 201) X dX11_log_201 3 rfl ?_
  refine b_iast (pc := 202) X ce_54 (fun _ => ca_54 _ _) dX11_log_202 hf (fun j7 s8 hf => ?_)
  refine r_aload_n (x := some 39) (pc := 203) X dX11_log_203 0 rfl ?_
  refine r_get (j := 35) (pc := 204) X ce_39 rfl inT11 (by decide) w_1115 rfl dX11_log_204 ?_
  refine r_iload (pc := 207) X dX11_log_207 5 rfl ?_
  refine r_iload (pc := 209) X dX11_log_209 4 rfl ?_
  refine b_iast (pc := 211) X ce_55 (fun _ => ca_55 _ _) dX11_log_211 hf (fun j9 s10 hf => ?_)
  refine r_aload_n (x := some 39) (pc := 212) X dX11_log_212 0 rfl ?_
  refine r_dup (pc := 213) X dX11_log_213 rfl ?_
  refine r_get (j := 31) (pc := 214) X ce_39 rfl inT11 (by decide) w_1111 rfl dX11_log_214 ?_
  refine r_iconst (v := 1) (pc := 217) X dX11_log_217 (by decide) ?_
  refine r_iadd (pc := 218) X dX11_log_218 ?_
  refine b_put (j := 31) (pc := 219) X ce_39 rfl inT11 tyX11 tyX11_ok nmX11 (by decide) w_1111 rfl (tyX11_ok 31 (by decide)) rfl rfl (Nat.le_of_ble_eq_true rfl) (cp_2527 _) rfl rfl dX11_log_219 hf (fun s11 hf => ?_)
  refine r_aload_n (x := some 39) (pc := 222) X dX11_log_222 0 rfl ?_
  refine r_get (j := 31) (pc := 223) X ce_39 rfl inT11 (by decide) w_1111 rfl dX11_log_223 ?_
  refine r_iconst (v := 1) (pc := 226) X dX11_log_226 (by decide) ?_
  refine r_isub (pc := 227) X dX11_log_227 ?_
  exact e_iret (pc := 228) X hr hf (Nat.le_refl _) (Nat.le_refl _) dX11_log_228
set_option maxHeartbeats 1000000 in
theorem c_f_M_log_b90 {F : Nat} {Γ : Ga} {D : DD} {B : Nat} {r : Int32} {s' : St} (X : Cx Γ RX11 cX11_log 7 D B { frames := 1, cells := 0, slots := 0, locals := 22 }) (hr : (Gme Γ).sig.returnType = (some .int)) : ∀ (n : Nat) {s : St} {l1 : Int32} {l2 : Int32} {l3 : Int32} {l4 : Int32} {l6 : Int32}, f_M_log_b90 F n s l1 l2 l3 l4 l6 = some (r, s') → V Γ D B true 7 (QM Γ D B true s' (some (.int r)) 0 0) 0 0 s 90 [(0, .ref (B + 39)), (1, .int l1), (2, .int l2), (3, .int l3), (4, .int l4), (6, .int l6)] [] := by
  intro n
  induction n with
  | zero => intro s l1 l2 l3 l4 l6 hf; rw [f_M_log_b90] at hf; cases hf
  | succ n ih =>
    intro s l1 l2 l3 l4 l6 hf
    rw [f_M_log_b90] at hf
    refine r_iload (pc := 90) X dX11_log_90 5 rfl ?_
    refine b_if_le (tgt := 179) (pc := 92) X dX11_log_92 (by decide) hf (fun hf => ?_) (fun hf => ?_)
    · exact c_f_M_log_b179 X hr hf
    · refine r_aload_n (x := some 39) (pc := 95) X dX11_log_95 0 rfl ?_
      refine r_get (j := 35) (pc := 96) X ce_39 rfl inT11 (by decide) w_1115 rfl dX11_log_96 ?_
      refine r_iload (pc := 99) X dX11_log_99 5 rfl ?_
      refine r_iconst (v := 1) (pc := 101) X dX11_log_101 (by decide) ?_
      refine r_isub (pc := 102) X dX11_log_102 ?_
      refine b_iald (pc := 103) X ce_55 dX11_log_103 hf (fun j12 hf => ?_)
      refine r_iload (pc := 104) X dX11_log_104 4 rfl ?_
      refine b_icmp_le (tgt := 179) (pc := 106) X dX11_log_106 (by decide) hf (fun hf => ?_) (fun hf => ?_)
      · exact c_f_M_log_b179 X hr hf
      · refine r_aload_n (x := some 39) (pc := 109) X dX11_log_109 0 rfl ?_
        refine r_get (j := 32) (pc := 110) X ce_39 rfl inT11 (by decide) w_1112 rfl dX11_log_110 ?_
        refine r_iload (pc := 113) X dX11_log_113 5 rfl ?_
        refine r_aload_n (x := some 39) (pc := 115) X dX11_log_115 0 rfl ?_
        refine r_get (j := 32) (pc := 116) X ce_39 rfl inT11 (by decide) w_1112 rfl dX11_log_116 ?_
        refine r_iload (pc := 119) X dX11_log_119 5 rfl ?_
        refine r_iconst (v := 1) (pc := 121) X dX11_log_121 (by decide) ?_
        refine r_isub (pc := 122) X dX11_log_122 ?_
        refine b_iald (pc := 123) X ce_52 dX11_log_123 hf (fun j13 hf => ?_)
        refine b_iast (pc := 124) X ce_52 (fun _ => ca_52 _ _) dX11_log_124 hf (fun j14 s15 hf => ?_)
        refine r_aload_n (x := some 39) (pc := 125) X dX11_log_125 0 rfl ?_
        refine r_get (j := 33) (pc := 126) X ce_39 rfl inT11 (by decide) w_1113 rfl dX11_log_126 ?_
        refine r_iload (pc := 129) X dX11_log_129 5 rfl ?_
        refine r_aload_n (x := some 39) (pc := 131) X dX11_log_131 0 rfl ?_
        refine r_get (j := 33) (pc := 132) X ce_39 rfl inT11 (by decide) w_1113 rfl dX11_log_132 ?_
        refine r_iload (pc := 135) X dX11_log_135 5 rfl ?_
        refine r_iconst (v := 1) (pc := 137) X dX11_log_137 (by decide) ?_
        refine r_isub (pc := 138) X dX11_log_138 ?_
        refine b_iald (pc := 139) X ce_53 dX11_log_139 hf (fun j16 hf => ?_)
        refine b_iast (pc := 140) X ce_53 (fun _ => ca_53 _ _) dX11_log_140 hf (fun j17 s18 hf => ?_)
        refine r_aload_n (x := some 39) (pc := 141) X dX11_log_141 0 rfl ?_
        refine r_get (j := 34) (pc := 142) X ce_39 rfl inT11 (by decide) w_1114 rfl dX11_log_142 ?_
        refine r_iload (pc := 145) X dX11_log_145 5 rfl ?_
        refine r_aload_n (x := some 39) (pc := 147) X dX11_log_147 0 rfl ?_
        refine r_get (j := 34) (pc := 148) X ce_39 rfl inT11 (by decide) w_1114 rfl dX11_log_148 ?_
        refine r_iload (pc := 151) X dX11_log_151 5 rfl ?_
        refine r_iconst (v := 1) (pc := 153) X dX11_log_153 (by decide) ?_
        refine r_isub (pc := 154) X dX11_log_154 ?_
        refine b_iald (pc := 155) X ce_54 dX11_log_155 hf (fun j19 hf => ?_)
        refine b_iast (pc := 156) X ce_54 (fun _ => ca_54 _ _) dX11_log_156 hf (fun j20 s21 hf => ?_)
        refine r_aload_n (x := some 39) (pc := 157) X dX11_log_157 0 rfl ?_
        refine r_get (j := 35) (pc := 158) X ce_39 rfl inT11 (by decide) w_1115 rfl dX11_log_158 ?_
        refine r_iload (pc := 161) X dX11_log_161 5 rfl ?_
        refine r_aload_n (x := some 39) (pc := 163) X dX11_log_163 0 rfl ?_
        refine r_get (j := 35) (pc := 164) X ce_39 rfl inT11 (by decide) w_1115 rfl dX11_log_164 ?_
        refine r_iload (pc := 167) X dX11_log_167 5 rfl ?_
        refine r_iconst (v := 1) (pc := 169) X dX11_log_169 (by decide) ?_
        refine r_isub (pc := 170) X dX11_log_170 ?_
        refine b_iald (pc := 171) X ce_55 dX11_log_171 hf (fun j22 hf => ?_)
        refine b_iast (pc := 172) X ce_55 (fun _ => ca_55 _ _) dX11_log_172 hf (fun j23 s24 hf => ?_)
        refine r_iinc (v := l6 + (-1)) (lv' := [(0, .ref (B + 39)), (1, .int l1), (2, .int l2), (3, .int l3), (4, .int l4), (6, .int (l6 + (-1)))]) (pc := 173) X dX11_log_173 5 rfl rfl (by decide) [1, 2, 3, 4, 5, 0] rfl ?_
        refine r_goto (tgt := 90) (pc := 176) X dX11_log_176 (by decide) ?_
        exact ih hf
set_option maxHeartbeats 1000000 in
theorem c_f_M_log_b50 {F : Nat} {Γ : Ga} {D : DD} {B : Nat} {r : Int32} {s' : St} (X : Cx Γ RX11 cX11_log 7 D B { frames := 1, cells := 0, slots := 0, locals := 22 }) (hr : (Gme Γ).sig.returnType = (some .int)) {s : St} {l1 : Int32} {l2 : Int32} {l3 : Int32} {l4 : Int32} {t0 : Int32} (hf : f_M_log_b50 F s l1 l2 l3 l4 t0 = some (r, s')) : V Γ D B true 7 (QM Γ D B true s' (some (.int r)) 0 0) 0 0 s 50 [(0, .ref (B + 39)), (1, .int l1), (2, .int l2), (3, .int l3), (4, .int l4)] [.int t0] := by
  unfold f_M_log_b50 at hf
  refine r_istore (pc := 50) (lv' := [(0, .ref (B + 39)), (1, .int l1), (2, .int l2), (3, .int l3), (4, .int l4), (5, .int t0)]) X dX11_log_50 (by decide) [1, 2, 3, 4, 5, 0] rfl ?_
  refine r_aload_n (x := some 39) (pc := 52) X dX11_log_52 0 rfl ?_
  refine r_iload (pc := 53) X dX11_log_53 5 rfl ?_
  refine b_if_ne (tgt := 62) (pc := 55) X dX11_log_55 (by decide) hf (fun hf => ?_) (fun hf => ?_)
  · refine r_iconst (v := 1) (pc := 58) X dX11_log_58 (by decide) ?_
    refine r_goto (tgt := 76) (pc := 59) X dX11_log_59 (by decide) ?_
    refine bnd hf (fun x2 h2 hf => ?_)
    refine r_callVi (As := [.int 1]) (st := []) (pc := 76) X (c_f_M_goes h2) rfl w_1260 w_1262 w_35 w_84 w_1263 hdV_X11_goes (Rc.s rfl ce_39) (by decide) (by decide) (by decide) (Nat.le_of_ble_eq_true rfl) dX11_log_76 rfl ?_
    refine b_if_ne (tgt := 84) (pc := 79) X dX11_log_79 (by decide) hf (fun hf => ?_) (fun hf => ?_)
    · refine r_iconst (v := 0) (pc := 82) X dX11_log_82 (by decide) ?_
      exact e_iret (pc := 83) X hr hf (Nat.le_refl _) (Nat.le_refl _) dX11_log_83
    · refine r_aload_n (x := some 39) (pc := 84) X dX11_log_84 0 rfl ?_
      refine r_get (j := 31) (pc := 85) X ce_39 rfl inT11 (by decide) w_1111 rfl dX11_log_85 ?_
      refine r_istore (pc := 88) (lv' := [(0, .ref (B + 39)), (1, .int l1), (2, .int l2), (3, .int l3), (4, .int l4), (6, .int (gI x2.2 2527))]) X dX11_log_88 (by decide) [1, 2, 3, 4, 5, 0] rfl ?_
      exact c_f_M_log_b90 X hr _ hf
  · refine r_aload_n (x := some 39) (pc := 62) X dX11_log_62 0 rfl ?_
    refine r_get (j := 31) (pc := 63) X ce_39 rfl inT11 (by decide) w_1111 rfl dX11_log_63 ?_
    refine r_bipush (v := 100) (pc := 66) X dX11_log_66 (by decide) ?_
    refine b_icmp_ne (tgt := 75) (pc := 68) X dX11_log_68 (by decide) hf (fun hf => ?_) (fun hf => ?_)
    · refine r_iconst (v := 2) (pc := 71) X dX11_log_71 (by decide) ?_
      refine r_goto (tgt := 76) (pc := 72) X dX11_log_72 (by decide) ?_
      refine bnd hf (fun x25 h25 hf => ?_)
      refine r_callVi (As := [.int 2]) (st := []) (pc := 76) X (c_f_M_goes h25) rfl w_1260 w_1262 w_35 w_84 w_1263 hdV_X11_goes (Rc.s rfl ce_39) (by decide) (by decide) (by decide) (Nat.le_of_ble_eq_true rfl) dX11_log_76 rfl ?_
      refine b_if_ne (tgt := 84) (pc := 79) X dX11_log_79 (by decide) hf (fun hf => ?_) (fun hf => ?_)
      · refine r_iconst (v := 0) (pc := 82) X dX11_log_82 (by decide) ?_
        exact e_iret (pc := 83) X hr hf (Nat.le_refl _) (Nat.le_refl _) dX11_log_83
      · refine r_aload_n (x := some 39) (pc := 84) X dX11_log_84 0 rfl ?_
        refine r_get (j := 31) (pc := 85) X ce_39 rfl inT11 (by decide) w_1111 rfl dX11_log_85 ?_
        refine r_istore (pc := 88) (lv' := [(0, .ref (B + 39)), (1, .int l1), (2, .int l2), (3, .int l3), (4, .int l4), (6, .int (gI x25.2 2527))]) X dX11_log_88 (by decide) [1, 2, 3, 4, 5, 0] rfl ?_
        exact c_f_M_log_b90 X hr _ hf
    · refine r_iconst (v := 0) (pc := 75) X dX11_log_75 (by decide) ?_
      refine bnd hf (fun x26 h26 hf => ?_)
      refine r_callVi (As := [.int 0]) (st := []) (pc := 76) X (c_f_M_goes h26) rfl w_1260 w_1262 w_35 w_84 w_1263 hdV_X11_goes (Rc.s rfl ce_39) (by decide) (by decide) (by decide) (Nat.le_of_ble_eq_true rfl) dX11_log_76 rfl ?_
      refine b_if_ne (tgt := 84) (pc := 79) X dX11_log_79 (by decide) hf (fun hf => ?_) (fun hf => ?_)
      · refine r_iconst (v := 0) (pc := 82) X dX11_log_82 (by decide) ?_
        exact e_iret (pc := 83) X hr hf (Nat.le_refl _) (Nat.le_refl _) dX11_log_83
      · refine r_aload_n (x := some 39) (pc := 84) X dX11_log_84 0 rfl ?_
        refine r_get (j := 31) (pc := 85) X ce_39 rfl inT11 (by decide) w_1111 rfl dX11_log_85 ?_
        refine r_istore (pc := 88) (lv' := [(0, .ref (B + 39)), (1, .int l1), (2, .int l2), (3, .int l3), (4, .int l4), (6, .int (gI x26.2 2527))]) X dX11_log_88 (by decide) [1, 2, 3, 4, 5, 0] rfl ?_
        exact c_f_M_log_b90 X hr _ hf
set_option maxHeartbeats 1000000 in
theorem c_f_M_log {F : Nat} {s : St} {p1 : Int32} {p2 : Int32} {p3 : Int32} {p4 : Int32} {r : Int32} {s' : St} (hf : f_M_log F s p1 p2 p3 p4 = some (r, s')) : CC true yX11_log (Cond.code yX11_log cX11_log 7 (some .int)) 1 22 (fun B => [.ref (B + 39), .int p1, .int p2, .int p3, .int p4]) s (fun B => (some (.int r))) s' 0 0 := by
  refine CC.of (fun B => [(0, .ref (B + 39)), (1, .int p1), (2, .int p2), (3, .int p3), (4, .int p4)]) (by decide +kernel) (fun _ => rfl) (fun _ => (by simp [lg_sl, rfB_cat, catI, catL, catR])) (fun Γ D B X hr hin => ?_)
  have X : Cx Γ RX11 cX11_log 7 D B { frames := 1, cells := 0, slots := 0, locals := 22 } := X
  unfold f_M_log at hf
  refine r_iload_n (pc := 0) X dX11_log_0 1 rfl ?_
  refine r_iconst (v := 0) (pc := 1) X dX11_log_1 (by decide) ?_
  refine r_bipush (v := 7) (pc := 2) X dX11_log_2 (by decide) ?_
  refine bnd hf (fun x1 h1 hf => ?_)
  refine r_callSi (As := [.int p1, .int 0, .int 7]) (st := []) (pc := 4) X (c_f_M_isIn h1) rfl w_1257 w_1258 w_84 w_1259 hdS_X11_isIn (by decide) (by decide) (by decide) (Nat.le_of_ble_eq_true rfl) dX11_log_4 rfl ?_
  refine b_if_eq (tgt := 49) (pc := 7) X dX11_log_7 (by decide) hf (fun hf => ?_) (fun hf => ?_)
  · refine r_iconst (v := 0) (pc := 49) X dX11_log_49 (by decide) ?_
    exact c_f_M_log_b50 X hr hf
  · refine r_iload_n (pc := 10) X dX11_log_10 2 rfl ?_
    refine r_iconst (v := 0) (pc := 11) X dX11_log_11 (by decide) ?_
    refine r_iconst (v := 5) (pc := 12) X dX11_log_12 (by decide) ?_
    refine bnd hf (fun x27 h27 hf => ?_)
    refine r_callSi (As := [.int p2, .int 0, .int 5]) (st := []) (pc := 13) X (c_f_M_isIn h27) rfl w_1257 w_1258 w_84 w_1259 hdS_X11_isIn (by decide) (by decide) (by decide) (Nat.le_of_ble_eq_true rfl) dX11_log_13 rfl ?_
    refine b_if_eq (tgt := 49) (pc := 16) X dX11_log_16 (by decide) hf (fun hf => ?_) (fun hf => ?_)
    · refine r_iconst (v := 0) (pc := 49) X dX11_log_49 (by decide) ?_
      exact c_f_M_log_b50 X hr hf
    · refine r_iload_n (pc := 19) X dX11_log_19 3 rfl ?_
      refine r_sipush (v := -1000) (pc := 20) X dX11_log_20 (by decide) ?_
      refine r_sipush (v := 1000) (pc := 23) X dX11_log_23 (by decide) ?_
      refine bnd hf (fun x28 h28 hf => ?_)
      refine r_callSi (As := [.int p3, .int (-1000), .int 1000]) (st := []) (pc := 26) X (c_f_M_isIn h28) rfl w_1257 w_1258 w_84 w_1259 hdS_X11_isIn (by decide) (by decide) (by decide) (Nat.le_of_ble_eq_true rfl) dX11_log_26 rfl ?_
      refine b_if_eq (tgt := 49) (pc := 29) X dX11_log_29 (by decide) hf (fun hf => ?_) (fun hf => ?_)
      · refine r_iconst (v := 0) (pc := 49) X dX11_log_49 (by decide) ?_
        exact c_f_M_log_b50 X hr hf
      · refine r_iload (pc := 32) X dX11_log_32 4 rfl ?_
        refine r_iconst (v := 0) (pc := 34) X dX11_log_34 (by decide) ?_
        refine r_aload_n (x := some 39) (pc := 35) X dX11_log_35 0 rfl ?_
        refine r_get (j := 30) (pc := 36) X ce_39 rfl inT11 (by decide) w_1110 rfl dX11_log_36 ?_
        refine bnd hf (fun x29 h29 hf => ?_)
        refine r_callSi (As := [.int p4, .int 0, .int (gI x28.2 2526)]) (st := []) (pc := 39) X (c_f_M_isIn h29) rfl w_1257 w_1258 w_84 w_1259 hdS_X11_isIn (by decide) (by decide) (by decide) (Nat.le_of_ble_eq_true rfl) dX11_log_39 rfl ?_
        refine b_if_eq (tgt := 49) (pc := 42) X dX11_log_42 (by decide) hf (fun hf => ?_) (fun hf => ?_)
        · refine r_iconst (v := 0) (pc := 49) X dX11_log_49 (by decide) ?_
          exact c_f_M_log_b50 X hr hf
        · refine r_iconst (v := 1) (pc := 45) X dX11_log_45 (by decide) ?_
          refine r_goto (tgt := 50) (pc := 46) X dX11_log_46 (by decide) ?_
          exact c_f_M_log_b50 X hr hf
/-! f_M_addPerson -/
theorem dX11_addPerson_0 : decode cX11_addPerson 0 = .ok (.aload_n 0, 1) := by decide +kernel
theorem dX11_addPerson_1 : decode cX11_addPerson 1 = .ok (.aload_n 0, 1) := by decide +kernel
theorem dX11_addPerson_2 : decode cX11_addPerson 2 = .ok (.getfield 278, 3) := by decide +kernel
theorem dX11_addPerson_5 : decode cX11_addPerson 5 = .ok (.bipush 8, 2) := by decide +kernel
theorem dX11_addPerson_7 : decode cX11_addPerson 7 = .ok (.if_icmp .ne 7, 3) := by decide +kernel
theorem dX11_addPerson_10 : decode cX11_addPerson 10 = .ok (.iconst 1, 1) := by decide +kernel
theorem dX11_addPerson_11 : decode cX11_addPerson 11 = .ok (.goto 4, 3) := by decide +kernel
theorem dX11_addPerson_14 : decode cX11_addPerson 14 = .ok (.iconst 0, 1) := by decide +kernel
theorem dX11_addPerson_15 : decode cX11_addPerson 15 = .ok (.invokevirtual 263, 3) := by decide +kernel
theorem dX11_addPerson_18 : decode cX11_addPerson 18 = .ok (.ifCond .ne 5, 3) := by decide +kernel
theorem dX11_addPerson_21 : decode cX11_addPerson 21 = .ok (.iconst 0, 1) := by decide +kernel
theorem dX11_addPerson_22 : decode cX11_addPerson 22 = .ok (.ireturn, 1) := by decide +kernel
theorem dX11_addPerson_23 : decode cX11_addPerson 23 = .ok (.aload_n 0, 1) := by decide +kernel
theorem dX11_addPerson_24 : decode cX11_addPerson 24 = .ok (.dup, 1) := by decide +kernel
theorem dX11_addPerson_25 : decode cX11_addPerson 25 = .ok (.getfield 278, 3) := by decide +kernel
theorem dX11_addPerson_28 : decode cX11_addPerson 28 = .ok (.iconst 1, 1) := by decide +kernel
theorem dX11_addPerson_29 : decode cX11_addPerson 29 = .ok (.iadd, 1) := by decide +kernel
theorem dX11_addPerson_30 : decode cX11_addPerson 30 = .ok (.putfield 278, 3) := by decide +kernel
theorem dX11_addPerson_33 : decode cX11_addPerson 33 = .ok (.aload_n 0, 1) := by decide +kernel
theorem dX11_addPerson_34 : decode cX11_addPerson 34 = .ok (.getfield 278, 3) := by decide +kernel
theorem dX11_addPerson_37 : decode cX11_addPerson 37 = .ok (.iconst 1, 1) := by decide +kernel
theorem dX11_addPerson_38 : decode cX11_addPerson 38 = .ok (.isub, 1) := by decide +kernel
theorem dX11_addPerson_39 : decode cX11_addPerson 39 = .ok (.ireturn, 1) := by decide +kernel
def f_M_addPerson_b15 (F : Nat) (s : St) (t1 : Int32) : Option (Int32 × St) :=
  (f_M_goes F s t1).bind fun x1 => (if x1.1 = 0 then
    (some (0, x1.2))
  else
    (lt (sI x1.2 2532 ((gI x1.2 2532) + 1)) fun s2 => (some (((gI s2 2532) - 1), s2))))
def f_M_addPerson (F : Nat) (s : St)  : Option (Int32 × St) :=
  if (gI s 2532) = 8 then
    (f_M_addPerson_b15 F s 1)
  else
    (f_M_addPerson_b15 F s 0)
set_option maxHeartbeats 1000000 in
theorem c_f_M_addPerson_b15 {F : Nat} {Γ : Ga} {D : DD} {B : Nat} {r : Int32} {s' : St} (X : Cx Γ RX11 cX11_addPerson 1 D B { frames := 1, cells := 0, slots := 0, locals := 21 }) (hr : (Gme Γ).sig.returnType = (some .int)) {s : St} {t1 : Int32} (hf : f_M_addPerson_b15 F s t1 = some (r, s')) : V Γ D B true 1 (QM Γ D B true s' (some (.int r)) 0 0) 0 0 s 15 [(0, .ref (B + 39))] [.int t1, .ref (B + 39)] := by
  unfold f_M_addPerson_b15 at hf
  refine bnd hf (fun x1 h1 hf => ?_)
  refine r_callVi (As := [.int t1]) (st := []) (pc := 15) X (c_f_M_goes h1) rfl w_1260 w_1262 w_35 w_84 w_1263 hdV_X11_goes (Rc.s rfl ce_39) (by decide) (by decide) (by decide) (Nat.le_of_ble_eq_true rfl) dX11_addPerson_15 rfl ?_
  refine b_if_ne (tgt := 23) (pc := 18) X dX11_addPerson_18 (by decide) hf (fun hf => ?_) (fun hf => ?_)
  · refine r_iconst (v := 0) (pc := 21) X dX11_addPerson_21 (by decide) ?_
    exact e_iret (pc := 22) X hr hf (Nat.le_refl _) (Nat.le_refl _) dX11_addPerson_22
  · refine r_aload_n (x := some 39) (pc := 23) X dX11_addPerson_23 0 rfl ?_
    refine r_dup (pc := 24) X dX11_addPerson_24 rfl ?_
    refine r_get (j := 36) (pc := 25) X ce_39 rfl inT11 (by decide) w_1116 rfl dX11_addPerson_25 ?_
    refine r_iconst (v := 1) (pc := 28) X dX11_addPerson_28 (by decide) ?_
    refine r_iadd (pc := 29) X dX11_addPerson_29 ?_
    refine b_put (j := 36) (pc := 30) X ce_39 rfl inT11 tyX11 tyX11_ok nmX11 (by decide) w_1116 rfl (tyX11_ok 36 (by decide)) rfl rfl (Nat.le_of_ble_eq_true rfl) (cp_2532 _) rfl rfl dX11_addPerson_30 hf (fun s2 hf => ?_)
    refine r_aload_n (x := some 39) (pc := 33) X dX11_addPerson_33 0 rfl ?_
    refine r_get (j := 36) (pc := 34) X ce_39 rfl inT11 (by decide) w_1116 rfl dX11_addPerson_34 ?_
    refine r_iconst (v := 1) (pc := 37) X dX11_addPerson_37 (by decide) ?_
    refine r_isub (pc := 38) X dX11_addPerson_38 ?_
    exact e_iret (pc := 39) X hr hf (Nat.le_refl _) (Nat.le_refl _) dX11_addPerson_39
set_option maxHeartbeats 1000000 in
theorem c_f_M_addPerson {F : Nat} {s : St}  {r : Int32} {s' : St} (hf : f_M_addPerson F s  = some (r, s')) : CC true yX11_addPerson (Cond.code yX11_addPerson cX11_addPerson 1 (some .int)) 1 21 (fun B => [.ref (B + 39)]) s (fun B => (some (.int r))) s' 0 0 := by
  refine CC.of (fun B => [(0, .ref (B + 39))]) (by decide +kernel) (fun _ => rfl) (fun _ => (by simp [lg_sl, rfB_cat, catI, catL, catR])) (fun Γ D B X hr hin => ?_)
  have X : Cx Γ RX11 cX11_addPerson 1 D B { frames := 1, cells := 0, slots := 0, locals := 21 } := X
  unfold f_M_addPerson at hf
  refine r_aload_n (x := some 39) (pc := 0) X dX11_addPerson_0 0 rfl ?_
  refine r_aload_n (x := some 39) (pc := 1) X dX11_addPerson_1 0 rfl ?_
  refine r_get (j := 36) (pc := 2) X ce_39 rfl inT11 (by decide) w_1116 rfl dX11_addPerson_2 ?_
  refine r_bipush (v := 8) (pc := 5) X dX11_addPerson_5 (by decide) ?_
  refine b_icmp_ne (tgt := 14) (pc := 7) X dX11_addPerson_7 (by decide) hf (fun hf => ?_) (fun hf => ?_)
  · refine r_iconst (v := 1) (pc := 10) X dX11_addPerson_10 (by decide) ?_
    refine r_goto (tgt := 15) (pc := 11) X dX11_addPerson_11 (by decide) ?_
    exact c_f_M_addPerson_b15 X hr hf
  · refine r_iconst (v := 0) (pc := 14) X dX11_addPerson_14 (by decide) ?_
    exact c_f_M_addPerson_b15 X hr hf
/-! f_M_isToCome -/
theorem dX11_isToCome_0 : decode cX11_isToCome 0 = .ok (.iload_n 1, 1) := by decide +kernel
theorem dX11_isToCome_1 : decode cX11_isToCome 1 = .ok (.aload_n 0, 1) := by decide +kernel
theorem dX11_isToCome_2 : decode cX11_isToCome 2 = .ok (.getfield 269, 3) := by decide +kernel
theorem dX11_isToCome_5 : decode cX11_isToCome 5 = .ok (.bipush 8, 2) := by decide +kernel
theorem dX11_isToCome_7 : decode cX11_isToCome 7 = .ok (.idiv, 1) := by decide +kernel
theorem dX11_isToCome_8 : decode cX11_isToCome 8 = .ok (.iconst 1, 1) := by decide +kernel
theorem dX11_isToCome_9 : decode cX11_isToCome 9 = .ok (.iadd, 1) := by decide +kernel
theorem dX11_isToCome_10 : decode cX11_isToCome 10 = .ok (.bipush 125, 2) := by decide +kernel
theorem dX11_isToCome_12 : decode cX11_isToCome 12 = .ok (.invokestatic 109, 3) := by decide +kernel
theorem dX11_isToCome_15 : decode cX11_isToCome 15 = .ok (.ireturn, 1) := by decide +kernel
def f_M_isToCome (F : Nat) (s : St) (p1 : Int32) : Option (Int32 × St) :=
  (f_M_isIn F s p1 (((gI s 2526) / 8) + 1) 125).bind fun x1 => (if x1.1 = 0 ∨ x1.1 = 1 then (some (x1.1, x1.2)) else none)
set_option maxHeartbeats 1000000 in
theorem c_f_M_isToCome {F : Nat} {s : St} {p1 : Int32} {r : Int32} {s' : St} (hf : f_M_isToCome F s p1 = some (r, s')) : CC true yX11_isToCome (Cond.code yX11_isToCome cX11_isToCome 2 (some .boolean)) 1 22 (fun B => [.ref (B + 39), .int p1]) s (fun B => (some (.int r))) s' 0 0 := by
  refine CC.of (fun B => [(0, .ref (B + 39)), (1, .int p1)]) (by decide +kernel) (fun _ => rfl) (fun _ => (by simp [lg_sl, rfB_cat, catI, catL, catR])) (fun Γ D B X hr hin => ?_)
  have X : Cx Γ RX11 cX11_isToCome 2 D B { frames := 1, cells := 0, slots := 0, locals := 22 } := X
  unfold f_M_isToCome at hf
  refine r_iload_n (pc := 0) X dX11_isToCome_0 1 rfl ?_
  refine r_aload_n (x := some 39) (pc := 1) X dX11_isToCome_1 0 rfl ?_
  refine r_get (j := 30) (pc := 2) X ce_39 rfl inT11 (by decide) w_1110 rfl dX11_isToCome_2 ?_
  refine r_bipush (v := 8) (pc := 5) X dX11_isToCome_5 (by decide) ?_
  refine r_idiv (pc := 7) X dX11_isToCome_7 (by decide) ?_
  refine r_iconst (v := 1) (pc := 8) X dX11_isToCome_8 (by decide) ?_
  refine r_iadd (pc := 9) X dX11_isToCome_9 ?_
  refine r_bipush (v := 125) (pc := 10) X dX11_isToCome_10 (by decide) ?_
  refine bnd hf (fun x1 h1 hf => ?_)
  refine r_callSi (As := [.int p1, .int (((gI s 2526) / 8) + 1), .int 125]) (st := []) (pc := 12) X (c_f_M_isIn h1) rfl w_1257 w_1258 w_84 w_1259 hdS_X11_isIn (by decide) (by decide) (by decide) (Nat.le_of_ble_eq_true rfl) dX11_isToCome_12 rfl ?_
  refine ifo hf (fun hx hf => ?_)
  exact e_zret (pc := 15) X hr hx hf (Nat.le_refl _) (Nat.le_refl _) dX11_isToCome_15
/-! f_M_off -/
theorem dX11_off_0 : decode cX11_off 0 = .ok (.aload_n 0, 1) := by decide +kernel
theorem dX11_off_1 : decode cX11_off 1 = .ok (.aload_n 0, 1) := by decide +kernel
theorem dX11_off_2 : decode cX11_off 2 = .ok (.iload_n 1, 1) := by decide +kernel
theorem dX11_off_3 : decode cX11_off 3 = .ok (.invokevirtual 324, 3) := by decide +kernel
theorem dX11_off_6 : decode cX11_off 6 = .ok (.ifCond .ne 7, 3) := by decide +kernel
theorem dX11_off_9 : decode cX11_off 9 = .ok (.iconst 1, 1) := by decide +kernel
theorem dX11_off_10 : decode cX11_off 10 = .ok (.goto 16, 3) := by decide +kernel
theorem dX11_off_13 : decode cX11_off 13 = .ok (.aload_n 0, 1) := by decide +kernel
theorem dX11_off_14 : decode cX11_off 14 = .ok (.iload_n 2, 1) := by decide +kernel
theorem dX11_off_15 : decode cX11_off 15 = .ok (.invokevirtual 327, 3) := by decide +kernel
theorem dX11_off_18 : decode cX11_off 18 = .ok (.ifCond .eq 7, 3) := by decide +kernel
theorem dX11_off_21 : decode cX11_off 21 = .ok (.iconst 0, 1) := by decide +kernel
theorem dX11_off_22 : decode cX11_off 22 = .ok (.goto 4, 3) := by decide +kernel
theorem dX11_off_25 : decode cX11_off 25 = .ok (.iconst 2, 1) := by decide +kernel
theorem dX11_off_26 : decode cX11_off 26 = .ok (.invokevirtual 263, 3) := by decide +kernel
theorem dX11_off_29 : decode cX11_off 29 = .ok (.ifCond .ne 5, 3) := by decide +kernel
theorem dX11_off_32 : decode cX11_off 32 = .ok (.iconst 0, 1) := by decide +kernel
theorem dX11_off_33 : decode cX11_off 33 = .ok (.ireturn, 1) := by decide +kernel
theorem dX11_off_34 : decode cX11_off 34 = .ok (.aload_n 0, 1) := by decide +kernel
theorem dX11_off_35 : decode cX11_off 35 = .ok (.getfield 60, 3) := by decide +kernel
theorem dX11_off_38 : decode cX11_off 38 = .ok (.bipush 126, 2) := by decide +kernel
theorem dX11_off_40 : decode cX11_off 40 = .ok (.iload_n 1, 1) := by decide +kernel
theorem dX11_off_41 : decode cX11_off 41 = .ok (.imul, 1) := by decide +kernel
theorem dX11_off_42 : decode cX11_off 42 = .ok (.iload_n 2, 1) := by decide +kernel
theorem dX11_off_43 : decode cX11_off 43 = .ok (.iadd, 1) := by decide +kernel
theorem dX11_off_44 : decode cX11_off 44 = .ok (.aload_n 0, 1) := by decide +kernel
theorem dX11_off_45 : decode cX11_off 45 = .ok (.iload_n 1, 1) := by decide +kernel
theorem dX11_off_46 : decode cX11_off 46 = .ok (.iload_n 2, 1) := by decide +kernel
theorem dX11_off_47 : decode cX11_off 47 = .ok (.invokevirtual 287, 3) := by decide +kernel
theorem dX11_off_50 : decode cX11_off 50 = .ok (.ifCond .ne 7, 3) := by decide +kernel
theorem dX11_off_53 : decode cX11_off 53 = .ok (.iconst 1, 1) := by decide +kernel
theorem dX11_off_54 : decode cX11_off 54 = .ok (.goto 4, 3) := by decide +kernel
theorem dX11_off_57 : decode cX11_off 57 = .ok (.iconst 0, 1) := by decide +kernel
theorem dX11_off_58 : decode cX11_off 58 = .ok (.bastore, 1) := by decide +kernel
theorem dX11_off_59 : decode cX11_off 59 = .ok (.aload_n 0, 1) := by decide +kernel
theorem dX11_off_60 : decode cX11_off 60 = .ok (.iload_n 1, 1) := by decide +kernel
theorem dX11_off_61 : decode cX11_off 61 = .ok (.iload_n 2, 1) := by decide +kernel
theorem dX11_off_62 : decode cX11_off 62 = .ok (.invokevirtual 287, 3) := by decide +kernel
theorem dX11_off_65 : decode cX11_off 65 = .ok (.ireturn, 1) := by decide +kernel
def f_M_off_b26 (F : Nat) (s : St) (l1 : Int32) (l2 : Int32) (t1 : Int32) : Option (Int32 × St) :=
  (f_M_goes F s t1).bind fun x2 => (if x2.1 = 0 then
    (some (0, x2.2))
  else
    ((f_M_isOffIn F x2.2 l1 l2).bind fun x3 => (if x3.1 = 0 then
      ((ix 1008 (((126 : Int32) * l1) + l2)).bind fun j4 => (lt (sA x3.2 56 j4 1) fun s5 => ((f_M_isOffIn F s5 l1 l2).bind fun x6 => (if x6.1 = 0 ∨ x6.1 = 1 then (some (x6.1, x6.2)) else none))))
    else
      ((ix 1008 (((126 : Int32) * l1) + l2)).bind fun j7 => (lt (sA x3.2 56 j7 0) fun s8 => ((f_M_isOffIn F s8 l1 l2).bind fun x9 => (if x9.1 = 0 ∨ x9.1 = 1 then (some (x9.1, x9.2)) else none)))))))
def f_M_off (F : Nat) (s : St) (p1 : Int32) (p2 : Int32) : Option (Int32 × St) :=
  (f_M_isPerson F s p1).bind fun x1 => (if x1.1 = 0 then
    (f_M_off_b26 F x1.2 p1 p2 1)
  else
    ((f_M_isToCome F x1.2 p2).bind fun x10 => (if x10.1 = 0 then
      (f_M_off_b26 F x10.2 p1 p2 2)
    else
      (f_M_off_b26 F x10.2 p1 p2 0))))
set_option maxHeartbeats 1000000 in
theorem c_f_M_off_b26 {F : Nat} {Γ : Ga} {D : DD} {B : Nat} {r : Int32} {s' : St} (X : Cx Γ RX11 cX11_off 3 D B { frames := 2, cells := 0, slots := 0, locals := 43 }) (hr : (Gme Γ).sig.returnType = (some .boolean)) {s : St} {l1 : Int32} {l2 : Int32} {t1 : Int32} (hf : f_M_off_b26 F s l1 l2 t1 = some (r, s')) : V Γ D B true 3 (QM Γ D B true s' (some (.int r)) 0 0) 0 0 s 26 [(0, .ref (B + 39)), (1, .int l1), (2, .int l2)] [.int t1, .ref (B + 39)] := by
  unfold f_M_off_b26 at hf
  refine bnd hf (fun x2 h2 hf => ?_)
  refine r_callVi (As := [.int t1]) (st := []) (pc := 26) X (c_f_M_goes h2) rfl w_1260 w_1262 w_35 w_84 w_1263 hdV_X11_goes (Rc.s rfl ce_39) (by decide) (by decide) (by decide) (Nat.le_of_ble_eq_true rfl) dX11_off_26 rfl ?_
  refine b_if_ne (tgt := 34) (pc := 29) X dX11_off_29 (by decide) hf (fun hf => ?_) (fun hf => ?_)
  · refine r_iconst (v := 0) (pc := 32) X dX11_off_32 (by decide) ?_
    exact e_zret (pc := 33) X hr (by decide) hf (Nat.le_refl _) (Nat.le_refl _) dX11_off_33
  · refine r_aload_n (x := some 39) (pc := 34) X dX11_off_34 0 rfl ?_
    refine r_get (j := 37) (pc := 35) X ce_39 rfl inT11 (by decide) w_1117 rfl dX11_off_35 ?_
    refine r_bipush (v := 126) (pc := 38) X dX11_off_38 (by decide) ?_
    refine r_iload_n (pc := 40) X dX11_off_40 1 rfl ?_
    refine r_imul (pc := 41) X dX11_off_41 ?_
    refine r_iload_n (pc := 42) X dX11_off_42 2 rfl ?_
    refine r_iadd (pc := 43) X dX11_off_43 ?_
    refine r_aload_n (x := some 39) (pc := 44) X dX11_off_44 0 rfl ?_
    refine r_iload_n (pc := 45) X dX11_off_45 1 rfl ?_
    refine r_iload_n (pc := 46) X dX11_off_46 2 rfl ?_
    refine bnd hf (fun x3 h3 hf => ?_)
    refine r_callVi (As := [.int l1, .int l2]) (st := [.int (((126 : Int32) * l1) + l2), .ref (B + 56)]) (pc := 47) X (c_f_M_isOffIn h3) rfl w_1413 w_1415 w_63 w_84 w_1416 hdV_X11_isOffIn (Rc.s rfl ce_39) (by decide) (by decide) (by decide) (Nat.le_of_ble_eq_true rfl) dX11_off_47 rfl ?_
    refine b_if_ne (tgt := 57) (pc := 50) X dX11_off_50 (by decide) hf (fun hf => ?_) (fun hf => ?_)
    · refine r_iconst (v := 1) (pc := 53) X dX11_off_53 (by decide) ?_
      refine r_goto (tgt := 58) (pc := 54) X dX11_off_54 (by decide) ?_
      refine b_zast (pc := 58) X ce_56 (fun _ => ca_56 _ _) dX11_off_58 hf (by decide) (fun j4 s5 hf => ?_)
      refine r_aload_n (x := some 39) (pc := 59) X dX11_off_59 0 rfl ?_
      refine r_iload_n (pc := 60) X dX11_off_60 1 rfl ?_
      refine r_iload_n (pc := 61) X dX11_off_61 2 rfl ?_
      refine bnd hf (fun x6 h6 hf => ?_)
      refine r_callVi (As := [.int l1, .int l2]) (st := []) (pc := 62) X (c_f_M_isOffIn h6) rfl w_1413 w_1415 w_63 w_84 w_1416 hdV_X11_isOffIn (Rc.s rfl ce_39) (by decide) (by decide) (by decide) (Nat.le_of_ble_eq_true rfl) dX11_off_62 rfl ?_
      refine ifo hf (fun hx hf => ?_)
      exact e_zret (pc := 65) X hr hx hf (Nat.le_refl _) (Nat.le_refl _) dX11_off_65
    · refine r_iconst (v := 0) (pc := 57) X dX11_off_57 (by decide) ?_
      refine b_zast (pc := 58) X ce_56 (fun _ => ca_56 _ _) dX11_off_58 hf (by decide) (fun j7 s8 hf => ?_)
      refine r_aload_n (x := some 39) (pc := 59) X dX11_off_59 0 rfl ?_
      refine r_iload_n (pc := 60) X dX11_off_60 1 rfl ?_
      refine r_iload_n (pc := 61) X dX11_off_61 2 rfl ?_
      refine bnd hf (fun x9 h9 hf => ?_)
      refine r_callVi (As := [.int l1, .int l2]) (st := []) (pc := 62) X (c_f_M_isOffIn h9) rfl w_1413 w_1415 w_63 w_84 w_1416 hdV_X11_isOffIn (Rc.s rfl ce_39) (by decide) (by decide) (by decide) (Nat.le_of_ble_eq_true rfl) dX11_off_62 rfl ?_
      refine ifo hf (fun hx hf => ?_)
      exact e_zret (pc := 65) X hr hx hf (Nat.le_refl _) (Nat.le_refl _) dX11_off_65
set_option maxHeartbeats 1000000 in
theorem c_f_M_off {F : Nat} {s : St} {p1 : Int32} {p2 : Int32} {r : Int32} {s' : St} (hf : f_M_off F s p1 p2 = some (r, s')) : CC true yX11_off (Cond.code yX11_off cX11_off 3 (some .boolean)) 2 43 (fun B => [.ref (B + 39), .int p1, .int p2]) s (fun B => (some (.int r))) s' 0 0 := by
  refine CC.of (fun B => [(0, .ref (B + 39)), (1, .int p1), (2, .int p2)]) (by decide +kernel) (fun _ => rfl) (fun _ => (by simp [lg_sl, rfB_cat, catI, catL, catR])) (fun Γ D B X hr hin => ?_)
  have X : Cx Γ RX11 cX11_off 3 D B { frames := 2, cells := 0, slots := 0, locals := 43 } := X
  unfold f_M_off at hf
  refine r_aload_n (x := some 39) (pc := 0) X dX11_off_0 0 rfl ?_
  refine r_aload_n (x := some 39) (pc := 1) X dX11_off_1 0 rfl ?_
  refine r_iload_n (pc := 2) X dX11_off_2 1 rfl ?_
  refine bnd hf (fun x1 h1 hf => ?_)
  refine r_callVi (As := [.int p1]) (st := [.ref (B + 39)]) (pc := 3) X (c_f_M_isPerson h1) rfl w_1456 w_1458 w_69 w_84 w_1459 hdV_X11_isPerson (Rc.s rfl ce_39) (by decide) (by decide) (by decide) (Nat.le_of_ble_eq_true rfl) dX11_off_3 rfl ?_
  refine b_if_ne (tgt := 13) (pc := 6) X dX11_off_6 (by decide) hf (fun hf => ?_) (fun hf => ?_)
  · refine r_iconst (v := 1) (pc := 9) X dX11_off_9 (by decide) ?_
    refine r_goto (tgt := 26) (pc := 10) X dX11_off_10 (by decide) ?_
    exact c_f_M_off_b26 X hr hf
  · refine r_aload_n (x := some 39) (pc := 13) X dX11_off_13 0 rfl ?_
    refine r_iload_n (pc := 14) X dX11_off_14 2 rfl ?_
    refine bnd hf (fun x10 h10 hf => ?_)
    refine r_callVi (As := [.int p2]) (st := [.ref (B + 39)]) (pc := 15) X (c_f_M_isToCome h10) rfl w_1460 w_1462 w_70 w_84 w_1463 hdV_X11_isToCome (Rc.s rfl ce_39) (by decide) (by decide) (by decide) (Nat.le_of_ble_eq_true rfl) dX11_off_15 rfl ?_
    refine b_if_eq (tgt := 25) (pc := 18) X dX11_off_18 (by decide) hf (fun hf => ?_) (fun hf => ?_)
    · refine r_iconst (v := 2) (pc := 25) X dX11_off_25 (by decide) ?_
      exact c_f_M_off_b26 X hr hf
    · refine r_iconst (v := 0) (pc := 21) X dX11_off_21 (by decide) ?_
      refine r_goto (tgt := 26) (pc := 22) X dX11_off_22 (by decide) ?_
      exact c_f_M_off_b26 X hr hf
/-! f_M_swap -/
theorem dX11_swap_0 : decode cX11_swap 0 = .ok (.aload_n 0, 1) := by decide +kernel
theorem dX11_swap_1 : decode cX11_swap 1 = .ok (.aload_n 0, 1) := by decide +kernel
theorem dX11_swap_2 : decode cX11_swap 2 = .ok (.iload_n 1, 1) := by decide +kernel
theorem dX11_swap_3 : decode cX11_swap 3 = .ok (.invokevirtual 327, 3) := by decide +kernel
theorem dX11_swap_6 : decode cX11_swap 6 = .ok (.ifCond .eq 20, 3) := by decide +kernel
theorem dX11_swap_9 : decode cX11_swap 9 = .ok (.aload_n 0, 1) := by decide +kernel
theorem dX11_swap_10 : decode cX11_swap 10 = .ok (.iload_n 2, 1) := by decide +kernel
theorem dX11_swap_11 : decode cX11_swap 11 = .ok (.invokevirtual 327, 3) := by decide +kernel
theorem dX11_swap_14 : decode cX11_swap 14 = .ok (.ifCond .eq 12, 3) := by decide +kernel
theorem dX11_swap_17 : decode cX11_swap 17 = .ok (.iload_n 1, 1) := by decide +kernel
theorem dX11_swap_18 : decode cX11_swap 18 = .ok (.iload_n 2, 1) := by decide +kernel
theorem dX11_swap_19 : decode cX11_swap 19 = .ok (.if_icmp .eq 7, 3) := by decide +kernel
theorem dX11_swap_22 : decode cX11_swap 22 = .ok (.iconst 0, 1) := by decide +kernel
theorem dX11_swap_23 : decode cX11_swap 23 = .ok (.goto 4, 3) := by decide +kernel
theorem dX11_swap_26 : decode cX11_swap 26 = .ok (.iconst 1, 1) := by decide +kernel
theorem dX11_swap_27 : decode cX11_swap 27 = .ok (.invokevirtual 263, 3) := by decide +kernel
theorem dX11_swap_30 : decode cX11_swap 30 = .ok (.ifCond .ne 4, 3) := by decide +kernel
theorem dX11_swap_33 : decode cX11_swap 33 = .ok (.return_, 1) := by decide +kernel
theorem dX11_swap_34 : decode cX11_swap 34 = .ok (.aload_n 0, 1) := by decide +kernel
theorem dX11_swap_35 : decode cX11_swap 35 = .ok (.iload_n 1, 1) := by decide +kernel
theorem dX11_swap_36 : decode cX11_swap 36 = .ok (.invokevirtual 281, 3) := by decide +kernel
theorem dX11_swap_39 : decode cX11_swap 39 = .ok (.istore_n 3, 1) := by decide +kernel
theorem dX11_swap_40 : decode cX11_swap 40 = .ok (.aload_n 0, 1) := by decide +kernel
theorem dX11_swap_41 : decode cX11_swap 41 = .ok (.iload_n 2, 1) := by decide +kernel
theorem dX11_swap_42 : decode cX11_swap 42 = .ok (.invokevirtual 281, 3) := by decide +kernel
theorem dX11_swap_45 : decode cX11_swap 45 = .ok (.istore 4, 2) := by decide +kernel
theorem dX11_swap_47 : decode cX11_swap 47 = .ok (.aload_n 0, 1) := by decide +kernel
theorem dX11_swap_48 : decode cX11_swap 48 = .ok (.iload_n 3, 1) := by decide +kernel
theorem dX11_swap_49 : decode cX11_swap 49 = .ok (.iconst (-1), 1) := by decide +kernel
theorem dX11_swap_50 : decode cX11_swap 50 = .ok (.if_icmp .eq 28, 3) := by decide +kernel
theorem dX11_swap_53 : decode cX11_swap 53 = .ok (.iload_n 3, 1) := by decide +kernel
theorem dX11_swap_54 : decode cX11_swap 54 = .ok (.iload 4, 2) := by decide +kernel
theorem dX11_swap_56 : decode cX11_swap 56 = .ok (.if_icmp .eq 22, 3) := by decide +kernel
theorem dX11_swap_59 : decode cX11_swap 59 = .ok (.aload_n 0, 1) := by decide +kernel
theorem dX11_swap_60 : decode cX11_swap 60 = .ok (.iload_n 3, 1) := by decide +kernel
theorem dX11_swap_61 : decode cX11_swap 61 = .ok (.iload_n 2, 1) := by decide +kernel
theorem dX11_swap_62 : decode cX11_swap 62 = .ok (.invokevirtual 287, 3) := by decide +kernel
theorem dX11_swap_65 : decode cX11_swap 65 = .ok (.ifCond .ne 13, 3) := by decide +kernel
theorem dX11_swap_68 : decode cX11_swap 68 = .ok (.aload_n 0, 1) := by decide +kernel
theorem dX11_swap_69 : decode cX11_swap 69 = .ok (.iload 4, 2) := by decide +kernel
theorem dX11_swap_71 : decode cX11_swap 71 = .ok (.iload_n 1, 1) := by decide +kernel
theorem dX11_swap_72 : decode cX11_swap 72 = .ok (.invokevirtual 287, 3) := by decide +kernel
theorem dX11_swap_75 : decode cX11_swap 75 = .ok (.ifCond .eq 7, 3) := by decide +kernel
theorem dX11_swap_78 : decode cX11_swap 78 = .ok (.iconst 2, 1) := by decide +kernel
theorem dX11_swap_79 : decode cX11_swap 79 = .ok (.goto 4, 3) := by decide +kernel
theorem dX11_swap_82 : decode cX11_swap 82 = .ok (.iconst 0, 1) := by decide +kernel
theorem dX11_swap_83 : decode cX11_swap 83 = .ok (.invokevirtual 263, 3) := by decide +kernel
theorem dX11_swap_86 : decode cX11_swap 86 = .ok (.ifCond .eq 18, 3) := by decide +kernel
theorem dX11_swap_89 : decode cX11_swap 89 = .ok (.aload_n 0, 1) := by decide +kernel
theorem dX11_swap_90 : decode cX11_swap 90 = .ok (.getfield 63, 3) := by decide +kernel
theorem dX11_swap_93 : decode cX11_swap 93 = .ok (.iload_n 1, 1) := by decide +kernel
theorem dX11_swap_94 : decode cX11_swap 94 = .ok (.iload 4, 2) := by decide +kernel
theorem dX11_swap_96 : decode cX11_swap 96 = .ok (.iastore, 1) := by decide +kernel
theorem dX11_swap_97 : decode cX11_swap 97 = .ok (.aload_n 0, 1) := by decide +kernel
theorem dX11_swap_98 : decode cX11_swap 98 = .ok (.getfield 63, 3) := by decide +kernel
theorem dX11_swap_101 : decode cX11_swap 101 = .ok (.iload_n 2, 1) := by decide +kernel
theorem dX11_swap_102 : decode cX11_swap 102 = .ok (.iload_n 3, 1) := by decide +kernel
theorem dX11_swap_103 : decode cX11_swap 103 = .ok (.iastore, 1) := by decide +kernel
theorem dX11_swap_104 : decode cX11_swap 104 = .ok (.return_, 1) := by decide +kernel
def f_M_swap_b78 (F : Nat) (s : St) (l1 : Int32) (l2 : Int32) (l3 : Int32) (l4 : Int32) : Option (St) :=
  (f_M_goes F s 2).bind fun x5 => (if x5.1 = 0 then
    (some x5.2)
  else
    ((ix 126 l1).bind fun j6 => (lt (sA x5.2 57 j6 l4) fun s7 => ((ix 126 l2).bind fun j8 => (lt (sA s7 57 j8 l3) fun s9 => (some s9))))))
def f_M_swap_b27 (F : Nat) (s : St) (l1 : Int32) (l2 : Int32) (t1 : Int32) : Option (St) :=
  (f_M_goes F s t1).bind fun x2 => (if x2.1 = 0 then
    (some x2.2)
  else
    ((f_M_plannedFor F x2.2 l1).bind fun x3 => ((f_M_plannedFor F x3.2 l2).bind fun x4 => (if x3.1 = (-1) then
      (f_M_swap_b78 F x4.2 l1 l2 x3.1 x4.1)
    else
      (if x3.1 = x4.1 then
        (f_M_swap_b78 F x4.2 l1 l2 x3.1 x4.1)
      else
        ((f_M_isOffIn F x4.2 x3.1 l2).bind fun x10 => (if x10.1 = 0 then
          ((f_M_isOffIn F x10.2 x4.1 l1).bind fun x11 => (if x11.1 = 0 then
            ((f_M_goes F x11.2 0).bind fun x12 => (if x12.1 = 0 then
              (some x12.2)
            else
              ((ix 126 l1).bind fun j13 => (lt (sA x12.2 57 j13 x4.1) fun s14 => ((ix 126 l2).bind fun j15 => (lt (sA s14 57 j15 x3.1) fun s16 => (some s16)))))))
          else
            (f_M_swap_b78 F x11.2 l1 l2 x3.1 x4.1)))
        else
          (f_M_swap_b78 F x10.2 l1 l2 x3.1 x4.1))))))))
def f_M_swap (F : Nat) (s : St) (p1 : Int32) (p2 : Int32) : Option (St) :=
  (f_M_isToCome F s p1).bind fun x1 => (if x1.1 = 0 then
    (f_M_swap_b27 F x1.2 p1 p2 1)
  else
    ((f_M_isToCome F x1.2 p2).bind fun x17 => (if x17.1 = 0 then
      (f_M_swap_b27 F x17.2 p1 p2 1)
    else
      (if p1 = p2 then
        (f_M_swap_b27 F x17.2 p1 p2 1)
      else
        (f_M_swap_b27 F x17.2 p1 p2 0)))))
set_option maxHeartbeats 1000000 in
theorem c_f_M_swap_b78 {F : Nat} {Γ : Ga} {D : DD} {B : Nat} {s' : St} (X : Cx Γ RX11 cX11_swap 5 D B { frames := 2, cells := 0, slots := 0, locals := 43 }) (hr : (Gme Γ).sig.returnType = none) {s : St} {l1 : Int32} {l2 : Int32} {l3 : Int32} {l4 : Int32} (hf : f_M_swap_b78 F s l1 l2 l3 l4 = some s') : V Γ D B true 5 (QM Γ D B true s' none 0 0) 0 0 s 78 [(0, .ref (B + 39)), (1, .int l1), (2, .int l2), (3, .int l3), (4, .int l4)] [.ref (B + 39)] := by
  unfold f_M_swap_b78 at hf
  refine r_iconst (v := 2) (pc := 78) X dX11_swap_78 (by decide) ?_
  refine r_goto (tgt := 83) (pc := 79) X dX11_swap_79 (by decide) ?_
  refine bnd hf (fun x5 h5 hf => ?_)
  refine r_callVi (As := [.int 2]) (st := []) (pc := 83) X (c_f_M_goes h5) rfl w_1260 w_1262 w_35 w_84 w_1263 hdV_X11_goes (Rc.s rfl ce_39) (by decide) (by decide) (by decide) (Nat.le_of_ble_eq_true rfl) dX11_swap_83 rfl ?_
  refine b_if_eq (tgt := 104) (pc := 86) X dX11_swap_86 (by decide) hf (fun hf => ?_) (fun hf => ?_)
  · exact e_vret (pc := 104) X hr hf (Nat.le_refl _) (Nat.le_refl _) dX11_swap_104
  · refine r_aload_n (x := some 39) (pc := 89) X dX11_swap_89 0 rfl ?_
    refine r_get (j := 38) (pc := 90) X ce_39 rfl inT11 (by decide) w_1118 rfl dX11_swap_90 ?_
    refine r_iload_n (pc := 93) X dX11_swap_93 1 rfl ?_
    refine r_iload (pc := 94) X dX11_swap_94 4 rfl ?_
    refine b_iast (pc := 96) X ce_57 (fun _ => ca_57 _ _) dX11_swap_96 hf (fun j6 s7 hf => ?_)
    refine r_aload_n (x := some 39) (pc := 97) X dX11_swap_97 0 rfl ?_
    refine r_get (j := 38) (pc := 98) X ce_39 rfl inT11 (by decide) w_1118 rfl dX11_swap_98 ?_
    refine r_iload_n (pc := 101) X dX11_swap_101 2 rfl ?_
    refine r_iload_n (pc := 102) X dX11_swap_102 3 rfl ?_
    refine b_iast (pc := 103) X ce_57 (fun _ => ca_57 _ _) dX11_swap_103 hf (fun j8 s9 hf => ?_)
    exact e_vret (pc := 104) X hr hf (Nat.le_refl _) (Nat.le_refl _) dX11_swap_104
set_option maxHeartbeats 1000000 in
theorem c_f_M_swap_b27 {F : Nat} {Γ : Ga} {D : DD} {B : Nat} {s' : St} (X : Cx Γ RX11 cX11_swap 5 D B { frames := 2, cells := 0, slots := 0, locals := 43 }) (hr : (Gme Γ).sig.returnType = none) {s : St} {l1 : Int32} {l2 : Int32} {t1 : Int32} (hf : f_M_swap_b27 F s l1 l2 t1 = some s') : V Γ D B true 5 (QM Γ D B true s' none 0 0) 0 0 s 27 [(0, .ref (B + 39)), (1, .int l1), (2, .int l2)] [.int t1, .ref (B + 39)] := by
  unfold f_M_swap_b27 at hf
  refine bnd hf (fun x2 h2 hf => ?_)
  refine r_callVi (As := [.int t1]) (st := []) (pc := 27) X (c_f_M_goes h2) rfl w_1260 w_1262 w_35 w_84 w_1263 hdV_X11_goes (Rc.s rfl ce_39) (by decide) (by decide) (by decide) (Nat.le_of_ble_eq_true rfl) dX11_swap_27 rfl ?_
  refine b_if_ne (tgt := 34) (pc := 30) X dX11_swap_30 (by decide) hf (fun hf => ?_) (fun hf => ?_)
  · exact e_vret (pc := 33) X hr hf (Nat.le_refl _) (Nat.le_refl _) dX11_swap_33
  · refine r_aload_n (x := some 39) (pc := 34) X dX11_swap_34 0 rfl ?_
    refine r_iload_n (pc := 35) X dX11_swap_35 1 rfl ?_
    refine bnd hf (fun x3 h3 hf => ?_)
    refine r_callVi (As := [.int l1]) (st := []) (pc := 36) X (c_f_M_plannedFor h3) rfl w_1409 w_1411 w_62 w_84 w_1412 hdV_X11_plannedFor (Rc.s rfl ce_39) (by decide) (by decide) (by decide) (Nat.le_of_ble_eq_true rfl) dX11_swap_36 rfl ?_
    refine r_istore_n (pc := 39) (lv' := [(0, .ref (B + 39)), (1, .int l1), (2, .int l2), (3, .int x3.1)]) X dX11_swap_39 (by decide) [1, 2, 3, 0] rfl ?_
    refine r_aload_n (x := some 39) (pc := 40) X dX11_swap_40 0 rfl ?_
    refine r_iload_n (pc := 41) X dX11_swap_41 2 rfl ?_
    refine bnd hf (fun x4 h4 hf => ?_)
    refine r_callVi (As := [.int l2]) (st := []) (pc := 42) X (c_f_M_plannedFor h4) rfl w_1409 w_1411 w_62 w_84 w_1412 hdV_X11_plannedFor (Rc.s rfl ce_39) (by decide) (by decide) (by decide) (Nat.le_of_ble_eq_true rfl) dX11_swap_42 rfl ?_
    refine r_istore (pc := 45) (lv' := [(0, .ref (B + 39)), (1, .int l1), (2, .int l2), (3, .int x3.1), (4, .int x4.1)]) X dX11_swap_45 (by decide) [1, 2, 3, 4, 0] rfl ?_
    refine r_aload_n (x := some 39) (pc := 47) X dX11_swap_47 0 rfl ?_
    refine r_iload_n (pc := 48) X dX11_swap_48 3 rfl ?_
    refine r_iconst (v := -1) (pc := 49) X dX11_swap_49 (by decide) ?_
    refine b_icmp_eq (tgt := 78) (pc := 50) X dX11_swap_50 (by decide) hf (fun hf => ?_) (fun hf => ?_)
    · exact c_f_M_swap_b78 X hr hf
    · refine r_iload_n (pc := 53) X dX11_swap_53 3 rfl ?_
      refine r_iload (pc := 54) X dX11_swap_54 4 rfl ?_
      refine b_icmp_eq (tgt := 78) (pc := 56) X dX11_swap_56 (by decide) hf (fun hf => ?_) (fun hf => ?_)
      · exact c_f_M_swap_b78 X hr hf
      · refine r_aload_n (x := some 39) (pc := 59) X dX11_swap_59 0 rfl ?_
        refine r_iload_n (pc := 60) X dX11_swap_60 3 rfl ?_
        refine r_iload_n (pc := 61) X dX11_swap_61 2 rfl ?_
        refine bnd hf (fun x10 h10 hf => ?_)
        refine r_callVi (As := [.int x3.1, .int l2]) (st := [.ref (B + 39)]) (pc := 62) X (c_f_M_isOffIn h10) rfl w_1413 w_1415 w_63 w_84 w_1416 hdV_X11_isOffIn (Rc.s rfl ce_39) (by decide) (by decide) (by decide) (Nat.le_of_ble_eq_true rfl) dX11_swap_62 rfl ?_
        refine b_if_ne (tgt := 78) (pc := 65) X dX11_swap_65 (by decide) hf (fun hf => ?_) (fun hf => ?_)
        · refine r_aload_n (x := some 39) (pc := 68) X dX11_swap_68 0 rfl ?_
          refine r_iload (pc := 69) X dX11_swap_69 4 rfl ?_
          refine r_iload_n (pc := 71) X dX11_swap_71 1 rfl ?_
          refine bnd hf (fun x11 h11 hf => ?_)
          refine r_callVi (As := [.int x4.1, .int l1]) (st := [.ref (B + 39)]) (pc := 72) X (c_f_M_isOffIn h11) rfl w_1413 w_1415 w_63 w_84 w_1416 hdV_X11_isOffIn (Rc.s rfl ce_39) (by decide) (by decide) (by decide) (Nat.le_of_ble_eq_true rfl) dX11_swap_72 rfl ?_
          refine b_if_eq (tgt := 82) (pc := 75) X dX11_swap_75 (by decide) hf (fun hf => ?_) (fun hf => ?_)
          · refine r_iconst (v := 0) (pc := 82) X dX11_swap_82 (by decide) ?_
            refine bnd hf (fun x12 h12 hf => ?_)
            refine r_callVi (As := [.int 0]) (st := []) (pc := 83) X (c_f_M_goes h12) rfl w_1260 w_1262 w_35 w_84 w_1263 hdV_X11_goes (Rc.s rfl ce_39) (by decide) (by decide) (by decide) (Nat.le_of_ble_eq_true rfl) dX11_swap_83 rfl ?_
            refine b_if_eq (tgt := 104) (pc := 86) X dX11_swap_86 (by decide) hf (fun hf => ?_) (fun hf => ?_)
            · exact e_vret (pc := 104) X hr hf (Nat.le_refl _) (Nat.le_refl _) dX11_swap_104
            · refine r_aload_n (x := some 39) (pc := 89) X dX11_swap_89 0 rfl ?_
              refine r_get (j := 38) (pc := 90) X ce_39 rfl inT11 (by decide) w_1118 rfl dX11_swap_90 ?_
              refine r_iload_n (pc := 93) X dX11_swap_93 1 rfl ?_
              refine r_iload (pc := 94) X dX11_swap_94 4 rfl ?_
              refine b_iast (pc := 96) X ce_57 (fun _ => ca_57 _ _) dX11_swap_96 hf (fun j13 s14 hf => ?_)
              refine r_aload_n (x := some 39) (pc := 97) X dX11_swap_97 0 rfl ?_
              refine r_get (j := 38) (pc := 98) X ce_39 rfl inT11 (by decide) w_1118 rfl dX11_swap_98 ?_
              refine r_iload_n (pc := 101) X dX11_swap_101 2 rfl ?_
              refine r_iload_n (pc := 102) X dX11_swap_102 3 rfl ?_
              refine b_iast (pc := 103) X ce_57 (fun _ => ca_57 _ _) dX11_swap_103 hf (fun j15 s16 hf => ?_)
              exact e_vret (pc := 104) X hr hf (Nat.le_refl _) (Nat.le_refl _) dX11_swap_104
          · exact c_f_M_swap_b78 X hr hf
        · exact c_f_M_swap_b78 X hr hf
set_option maxHeartbeats 1000000 in
theorem c_f_M_swap {F : Nat} {s : St} {p1 : Int32} {p2 : Int32} {s' : St} (hf : f_M_swap F s p1 p2 = some s') : CC true yX11_swap (Cond.code yX11_swap cX11_swap 5 none) 2 43 (fun B => [.ref (B + 39), .int p1, .int p2]) s (fun B => none) s' 0 0 := by
  refine CC.of (fun B => [(0, .ref (B + 39)), (1, .int p1), (2, .int p2)]) (by decide +kernel) (fun _ => rfl) (fun _ => (by simp [lg_sl, rfB_cat, catI, catL, catR])) (fun Γ D B X hr hin => ?_)
  have X : Cx Γ RX11 cX11_swap 5 D B { frames := 2, cells := 0, slots := 0, locals := 43 } := X
  unfold f_M_swap at hf
  refine r_aload_n (x := some 39) (pc := 0) X dX11_swap_0 0 rfl ?_
  refine r_aload_n (x := some 39) (pc := 1) X dX11_swap_1 0 rfl ?_
  refine r_iload_n (pc := 2) X dX11_swap_2 1 rfl ?_
  refine bnd hf (fun x1 h1 hf => ?_)
  refine r_callVi (As := [.int p1]) (st := [.ref (B + 39)]) (pc := 3) X (c_f_M_isToCome h1) rfl w_1460 w_1462 w_70 w_84 w_1463 hdV_X11_isToCome (Rc.s rfl ce_39) (by decide) (by decide) (by decide) (Nat.le_of_ble_eq_true rfl) dX11_swap_3 rfl ?_
  refine b_if_eq (tgt := 26) (pc := 6) X dX11_swap_6 (by decide) hf (fun hf => ?_) (fun hf => ?_)
  · refine r_iconst (v := 1) (pc := 26) X dX11_swap_26 (by decide) ?_
    exact c_f_M_swap_b27 X hr hf
  · refine r_aload_n (x := some 39) (pc := 9) X dX11_swap_9 0 rfl ?_
    refine r_iload_n (pc := 10) X dX11_swap_10 2 rfl ?_
    refine bnd hf (fun x17 h17 hf => ?_)
    refine r_callVi (As := [.int p2]) (st := [.ref (B + 39)]) (pc := 11) X (c_f_M_isToCome h17) rfl w_1460 w_1462 w_70 w_84 w_1463 hdV_X11_isToCome (Rc.s rfl ce_39) (by decide) (by decide) (by decide) (Nat.le_of_ble_eq_true rfl) dX11_swap_11 rfl ?_
    refine b_if_eq (tgt := 26) (pc := 14) X dX11_swap_14 (by decide) hf (fun hf => ?_) (fun hf => ?_)
    · refine r_iconst (v := 1) (pc := 26) X dX11_swap_26 (by decide) ?_
      exact c_f_M_swap_b27 X hr hf
    · refine r_iload_n (pc := 17) X dX11_swap_17 1 rfl ?_
      refine r_iload_n (pc := 18) X dX11_swap_18 2 rfl ?_
      refine b_icmp_eq (tgt := 26) (pc := 19) X dX11_swap_19 (by decide) hf (fun hf => ?_) (fun hf => ?_)
      · refine r_iconst (v := 1) (pc := 26) X dX11_swap_26 (by decide) ?_
        exact c_f_M_swap_b27 X hr hf
      · refine r_iconst (v := 0) (pc := 22) X dX11_swap_22 (by decide) ?_
        refine r_goto (tgt := 27) (pc := 23) X dX11_swap_23 (by decide) ?_
        exact c_f_M_swap_b27 X hr hf
/-! f_M_planned -/
theorem dX11_planned_0 : decode cX11_planned 0 = .ok (.aload_n 0, 1) := by decide +kernel
theorem dX11_planned_1 : decode cX11_planned 1 = .ok (.aload_n 0, 1) := by decide +kernel
theorem dX11_planned_2 : decode cX11_planned 2 = .ok (.iload_n 1, 1) := by decide +kernel
theorem dX11_planned_3 : decode cX11_planned 3 = .ok (.invokevirtual 327, 3) := by decide +kernel
theorem dX11_planned_6 : decode cX11_planned 6 = .ok (.ifCond .eq 7, 3) := by decide +kernel
theorem dX11_planned_9 : decode cX11_planned 9 = .ok (.iconst 0, 1) := by decide +kernel
theorem dX11_planned_10 : decode cX11_planned 10 = .ok (.goto 4, 3) := by decide +kernel
theorem dX11_planned_13 : decode cX11_planned 13 = .ok (.iconst 1, 1) := by decide +kernel
theorem dX11_planned_14 : decode cX11_planned 14 = .ok (.invokevirtual 263, 3) := by decide +kernel
theorem dX11_planned_17 : decode cX11_planned 17 = .ok (.ifCond .eq 11, 3) := by decide +kernel
theorem dX11_planned_20 : decode cX11_planned 20 = .ok (.aload_n 0, 1) := by decide +kernel
theorem dX11_planned_21 : decode cX11_planned 21 = .ok (.iload_n 1, 1) := by decide +kernel
theorem dX11_planned_22 : decode cX11_planned 22 = .ok (.invokevirtual 281, 3) := by decide +kernel
theorem dX11_planned_25 : decode cX11_planned 25 = .ok (.goto 4, 3) := by decide +kernel
theorem dX11_planned_28 : decode cX11_planned 28 = .ok (.iconst 0, 1) := by decide +kernel
theorem dX11_planned_29 : decode cX11_planned 29 = .ok (.ireturn, 1) := by decide +kernel
def f_M_planned (F : Nat) (s : St) (p1 : Int32) : Option (Int32 × St) :=
  (f_M_isToCome F s p1).bind fun x1 => (if x1.1 = 0 then
    ((f_M_goes F x1.2 1).bind fun x2 => (if x2.1 = 0 then
      (some (0, x2.2))
    else
      ((f_M_plannedFor F x2.2 p1).bind fun x3 => (some (x3.1, x3.2)))))
  else
    ((f_M_goes F x1.2 0).bind fun x4 => (if x4.1 = 0 then
      (some (0, x4.2))
    else
      ((f_M_plannedFor F x4.2 p1).bind fun x5 => (some (x5.1, x5.2))))))
set_option maxHeartbeats 1000000 in
theorem c_f_M_planned {F : Nat} {s : St} {p1 : Int32} {r : Int32} {s' : St} (hf : f_M_planned F s p1 = some (r, s')) : CC true yX11_planned (Cond.code yX11_planned cX11_planned 2 (some .int)) 2 43 (fun B => [.ref (B + 39), .int p1]) s (fun B => (some (.int r))) s' 0 0 := by
  refine CC.of (fun B => [(0, .ref (B + 39)), (1, .int p1)]) (by decide +kernel) (fun _ => rfl) (fun _ => (by simp [lg_sl, rfB_cat, catI, catL, catR])) (fun Γ D B X hr hin => ?_)
  have X : Cx Γ RX11 cX11_planned 2 D B { frames := 2, cells := 0, slots := 0, locals := 43 } := X
  unfold f_M_planned at hf
  refine r_aload_n (x := some 39) (pc := 0) X dX11_planned_0 0 rfl ?_
  refine r_aload_n (x := some 39) (pc := 1) X dX11_planned_1 0 rfl ?_
  refine r_iload_n (pc := 2) X dX11_planned_2 1 rfl ?_
  refine bnd hf (fun x1 h1 hf => ?_)
  refine r_callVi (As := [.int p1]) (st := [.ref (B + 39)]) (pc := 3) X (c_f_M_isToCome h1) rfl w_1460 w_1462 w_70 w_84 w_1463 hdV_X11_isToCome (Rc.s rfl ce_39) (by decide) (by decide) (by decide) (Nat.le_of_ble_eq_true rfl) dX11_planned_3 rfl ?_
  refine b_if_eq (tgt := 13) (pc := 6) X dX11_planned_6 (by decide) hf (fun hf => ?_) (fun hf => ?_)
  · refine r_iconst (v := 1) (pc := 13) X dX11_planned_13 (by decide) ?_
    refine bnd hf (fun x2 h2 hf => ?_)
    refine r_callVi (As := [.int 1]) (st := []) (pc := 14) X (c_f_M_goes h2) rfl w_1260 w_1262 w_35 w_84 w_1263 hdV_X11_goes (Rc.s rfl ce_39) (by decide) (by decide) (by decide) (Nat.le_of_ble_eq_true rfl) dX11_planned_14 rfl ?_
    refine b_if_eq (tgt := 28) (pc := 17) X dX11_planned_17 (by decide) hf (fun hf => ?_) (fun hf => ?_)
    · refine r_iconst (v := 0) (pc := 28) X dX11_planned_28 (by decide) ?_
      exact e_iret (pc := 29) X hr hf (Nat.le_refl _) (Nat.le_refl _) dX11_planned_29
    · refine r_aload_n (x := some 39) (pc := 20) X dX11_planned_20 0 rfl ?_
      refine r_iload_n (pc := 21) X dX11_planned_21 1 rfl ?_
      refine bnd hf (fun x3 h3 hf => ?_)
      refine r_callVi (As := [.int p1]) (st := []) (pc := 22) X (c_f_M_plannedFor h3) rfl w_1409 w_1411 w_62 w_84 w_1412 hdV_X11_plannedFor (Rc.s rfl ce_39) (by decide) (by decide) (by decide) (Nat.le_of_ble_eq_true rfl) dX11_planned_22 rfl ?_
      refine r_goto (tgt := 29) (pc := 25) X dX11_planned_25 (by decide) ?_
      exact e_iret (pc := 29) X hr hf (Nat.le_refl _) (Nat.le_refl _) dX11_planned_29
  · refine r_iconst (v := 0) (pc := 9) X dX11_planned_9 (by decide) ?_
    refine r_goto (tgt := 14) (pc := 10) X dX11_planned_10 (by decide) ?_
    refine bnd hf (fun x4 h4 hf => ?_)
    refine r_callVi (As := [.int 0]) (st := []) (pc := 14) X (c_f_M_goes h4) rfl w_1260 w_1262 w_35 w_84 w_1263 hdV_X11_goes (Rc.s rfl ce_39) (by decide) (by decide) (by decide) (Nat.le_of_ble_eq_true rfl) dX11_planned_14 rfl ?_
    refine b_if_eq (tgt := 28) (pc := 17) X dX11_planned_17 (by decide) hf (fun hf => ?_) (fun hf => ?_)
    · refine r_iconst (v := 0) (pc := 28) X dX11_planned_28 (by decide) ?_
      exact e_iret (pc := 29) X hr hf (Nat.le_refl _) (Nat.le_refl _) dX11_planned_29
    · refine r_aload_n (x := some 39) (pc := 20) X dX11_planned_20 0 rfl ?_
      refine r_iload_n (pc := 21) X dX11_planned_21 1 rfl ?_
      refine bnd hf (fun x5 h5 hf => ?_)
      refine r_callVi (As := [.int p1]) (st := []) (pc := 22) X (c_f_M_plannedFor h5) rfl w_1409 w_1411 w_62 w_84 w_1412 hdV_X11_plannedFor (Rc.s rfl ce_39) (by decide) (by decide) (by decide) (Nat.le_of_ble_eq_true rfl) dX11_planned_22 rfl ?_
      refine r_goto (tgt := 29) (pc := 25) X dX11_planned_25 (by decide) ?_
      exact e_iret (pc := 29) X hr hf (Nat.le_refl _) (Nat.le_refl _) dX11_planned_29
/-! f_M_next -/
theorem dX11_next_0 : decode cX11_next 0 = .ok (.aload_n 0, 1) := by decide +kernel
theorem dX11_next_1 : decode cX11_next 1 = .ok (.iconst 0, 1) := by decide +kernel
theorem dX11_next_2 : decode cX11_next 2 = .ok (.putfield 102, 3) := by decide +kernel
theorem dX11_next_5 : decode cX11_next 5 = .ok (.aload_n 0, 1) := by decide +kernel
theorem dX11_next_6 : decode cX11_next 6 = .ok (.getfield 269, 3) := by decide +kernel
theorem dX11_next_9 : decode cX11_next 9 = .ok (.bipush 8, 2) := by decide +kernel
theorem dX11_next_11 : decode cX11_next 11 = .ok (.idiv, 1) := by decide +kernel
theorem dX11_next_12 : decode cX11_next 12 = .ok (.iconst 1, 1) := by decide +kernel
theorem dX11_next_13 : decode cX11_next 13 = .ok (.iadd, 1) := by decide +kernel
theorem dX11_next_14 : decode cX11_next 14 = .ok (.bipush 126, 2) := by decide +kernel
theorem dX11_next_16 : decode cX11_next 16 = .ok (.if_icmp .ge 19, 3) := by decide +kernel
theorem dX11_next_19 : decode cX11_next 19 = .ok (.aload_n 0, 1) := by decide +kernel
theorem dX11_next_20 : decode cX11_next 20 = .ok (.aload_n 0, 1) := by decide +kernel
theorem dX11_next_21 : decode cX11_next 21 = .ok (.getfield 269, 3) := by decide +kernel
theorem dX11_next_24 : decode cX11_next 24 = .ok (.bipush 8, 2) := by decide +kernel
theorem dX11_next_26 : decode cX11_next 26 = .ok (.idiv, 1) := by decide +kernel
theorem dX11_next_27 : decode cX11_next 27 = .ok (.iconst 1, 1) := by decide +kernel
theorem dX11_next_28 : decode cX11_next 28 = .ok (.iadd, 1) := by decide +kernel
theorem dX11_next_29 : decode cX11_next 29 = .ok (.invokevirtual 297, 3) := by decide +kernel
theorem dX11_next_32 : decode cX11_next 32 = .ok (.goto 4, 3) := by decide +kernel
theorem dX11_next_35 : decode cX11_next 35 = .ok (.iconst (-1), 1) := by decide +kernel
theorem dX11_next_36 : decode cX11_next 36 = .ok (.ireturn, 1) := by decide +kernel
def f_M_next (F : Nat) (s : St)  : Option (Int32 × St) :=
  lt (sI s 2551 0) fun s1 => (if 126 ≤ (((gI s1 2526) / 8) + 1) then
    (some ((-1), s1))
  else
    ((f_M_holderOf F s1 (((gI s1 2526) / 8) + 1)).bind fun x2 => (some (x2.1, x2.2))))
set_option maxHeartbeats 1000000 in
theorem c_f_M_next {F : Nat} {s : St}  {r : Int32} {s' : St} (hf : f_M_next F s  = some (r, s')) : CC true yX11_next (Cond.code yX11_next cX11_next 1 (some .int)) 2 47 (fun B => [.ref (B + 39)]) s (fun B => (some (.int r))) s' 0 0 := by
  refine CC.of (fun B => [(0, .ref (B + 39))]) (by decide +kernel) (fun _ => rfl) (fun _ => (by simp [lg_sl, rfB_cat, catI, catL, catR])) (fun Γ D B X hr hin => ?_)
  have X : Cx Γ RX11 cX11_next 1 D B { frames := 2, cells := 0, slots := 0, locals := 47 } := X
  unfold f_M_next at hf
  refine r_aload_n (x := some 39) (pc := 0) X dX11_next_0 0 rfl ?_
  refine r_iconst (v := 0) (pc := 1) X dX11_next_1 (by decide) ?_
  refine b_put (j := 55) (pc := 2) X ce_39 rfl inT11 tyX11 tyX11_ok nmX11 (by decide) w_1135 rfl (tyX11_ok 55 (by decide)) rfl rfl (Nat.le_of_ble_eq_true rfl) (cp_2551 _) rfl rfl dX11_next_2 hf (fun s1 hf => ?_)
  refine r_aload_n (x := some 39) (pc := 5) X dX11_next_5 0 rfl ?_
  refine r_get (j := 30) (pc := 6) X ce_39 rfl inT11 (by decide) w_1110 rfl dX11_next_6 ?_
  refine r_bipush (v := 8) (pc := 9) X dX11_next_9 (by decide) ?_
  refine r_idiv (pc := 11) X dX11_next_11 (by decide) ?_
  refine r_iconst (v := 1) (pc := 12) X dX11_next_12 (by decide) ?_
  refine r_iadd (pc := 13) X dX11_next_13 ?_
  refine r_bipush (v := 126) (pc := 14) X dX11_next_14 (by decide) ?_
  refine b_icmp_ge (tgt := 35) (pc := 16) X dX11_next_16 (by decide) hf (fun hf => ?_) (fun hf => ?_)
  · refine r_iconst (v := -1) (pc := 35) X dX11_next_35 (by decide) ?_
    exact e_iret (pc := 36) X hr hf (Nat.le_refl _) (Nat.le_refl _) dX11_next_36
  · refine r_aload_n (x := some 39) (pc := 19) X dX11_next_19 0 rfl ?_
    refine r_aload_n (x := some 39) (pc := 20) X dX11_next_20 0 rfl ?_
    refine r_get (j := 30) (pc := 21) X ce_39 rfl inT11 (by decide) w_1110 rfl dX11_next_21 ?_
    refine r_bipush (v := 8) (pc := 24) X dX11_next_24 (by decide) ?_
    refine r_idiv (pc := 26) X dX11_next_26 (by decide) ?_
    refine r_iconst (v := 1) (pc := 27) X dX11_next_27 (by decide) ?_
    refine r_iadd (pc := 28) X dX11_next_28 ?_
    refine bnd hf (fun x2 h2 hf => ?_)
    refine r_callVi (As := [.int (((gI s1 2526) / 8) + 1)]) (st := []) (pc := 29) X (c_f_M_holderOf h2) rfl w_1405 w_1407 w_61 w_84 w_1408 hdV_X11_holderOf (Rc.s rfl ce_39) (by decide) (by decide) (by decide) (Nat.le_of_ble_eq_true rfl) dX11_next_29 rfl ?_
    refine r_goto (tgt := 36) (pc := 32) X dX11_next_32 (by decide) ?_
    exact e_iret (pc := 36) X hr hf (Nat.le_refl _) (Nat.le_refl _) dX11_next_36
/-! f_M_holder -/
theorem dX11_holder_0 : decode cX11_holder 0 = .ok (.aload_n 0, 1) := by decide +kernel
theorem dX11_holder_1 : decode cX11_holder 1 = .ok (.iload_n 1, 1) := by decide +kernel
theorem dX11_holder_2 : decode cX11_holder 2 = .ok (.iconst 0, 1) := by decide +kernel
theorem dX11_holder_3 : decode cX11_holder 3 = .ok (.aload_n 0, 1) := by decide +kernel
theorem dX11_holder_4 : decode cX11_holder 4 = .ok (.getfield 269, 3) := by decide +kernel
theorem dX11_holder_7 : decode cX11_holder 7 = .ok (.bipush 8, 2) := by decide +kernel
theorem dX11_holder_9 : decode cX11_holder 9 = .ok (.idiv, 1) := by decide +kernel
theorem dX11_holder_10 : decode cX11_holder 10 = .ok (.invokestatic 109, 3) := by decide +kernel
theorem dX11_holder_13 : decode cX11_holder 13 = .ok (.ifCond .eq 7, 3) := by decide +kernel
theorem dX11_holder_16 : decode cX11_holder 16 = .ok (.iconst 0, 1) := by decide +kernel
theorem dX11_holder_17 : decode cX11_holder 17 = .ok (.goto 4, 3) := by decide +kernel
theorem dX11_holder_20 : decode cX11_holder 20 = .ok (.iconst 1, 1) := by decide +kernel
theorem dX11_holder_21 : decode cX11_holder 21 = .ok (.invokevirtual 263, 3) := by decide +kernel
theorem dX11_holder_24 : decode cX11_holder 24 = .ok (.ifCond .eq 12, 3) := by decide +kernel
theorem dX11_holder_27 : decode cX11_holder 27 = .ok (.aload_n 0, 1) := by decide +kernel
theorem dX11_holder_28 : decode cX11_holder 28 = .ok (.getfield 66, 3) := by decide +kernel
theorem dX11_holder_31 : decode cX11_holder 31 = .ok (.iload_n 1, 1) := by decide +kernel
theorem dX11_holder_32 : decode cX11_holder 32 = .ok (.iaload, 1) := by decide +kernel
theorem dX11_holder_33 : decode cX11_holder 33 = .ok (.goto 4, 3) := by decide +kernel
theorem dX11_holder_36 : decode cX11_holder 36 = .ok (.iconst 0, 1) := by decide +kernel
theorem dX11_holder_37 : decode cX11_holder 37 = .ok (.ireturn, 1) := by decide +kernel
def f_M_holder (F : Nat) (s : St) (p1 : Int32) : Option (Int32 × St) :=
  (f_M_isIn F s p1 0 ((gI s 2526) / 8)).bind fun x1 => (if x1.1 = 0 then
    ((f_M_goes F x1.2 1).bind fun x2 => (if x2.1 = 0 then
      (some (0, x2.2))
    else
      ((ix 126 p1).bind fun j3 => (some ((gA x2.2 58 j3), x2.2)))))
  else
    ((f_M_goes F x1.2 0).bind fun x4 => (if x4.1 = 0 then
      (some (0, x4.2))
    else
      ((ix 126 p1).bind fun j5 => (some ((gA x4.2 58 j5), x4.2))))))
set_option maxHeartbeats 1000000 in
theorem c_f_M_holder {F : Nat} {s : St} {p1 : Int32} {r : Int32} {s' : St} (hf : f_M_holder F s p1 = some (r, s')) : CC true yX11_holder (Cond.code yX11_holder cX11_holder 2 (some .int)) 1 22 (fun B => [.ref (B + 39), .int p1]) s (fun B => (some (.int r))) s' 0 0 := by
  refine CC.of (fun B => [(0, .ref (B + 39)), (1, .int p1)]) (by decide +kernel) (fun _ => rfl) (fun _ => (by simp [lg_sl, rfB_cat, catI, catL, catR])) (fun Γ D B X hr hin => ?_)
  have X : Cx Γ RX11 cX11_holder 2 D B { frames := 1, cells := 0, slots := 0, locals := 22 } := X
  unfold f_M_holder at hf
  refine r_aload_n (x := some 39) (pc := 0) X dX11_holder_0 0 rfl ?_
  refine r_iload_n (pc := 1) X dX11_holder_1 1 rfl ?_
  refine r_iconst (v := 0) (pc := 2) X dX11_holder_2 (by decide) ?_
  refine r_aload_n (x := some 39) (pc := 3) X dX11_holder_3 0 rfl ?_
  refine r_get (j := 30) (pc := 4) X ce_39 rfl inT11 (by decide) w_1110 rfl dX11_holder_4 ?_
  refine r_bipush (v := 8) (pc := 7) X dX11_holder_7 (by decide) ?_
  refine r_idiv (pc := 9) X dX11_holder_9 (by decide) ?_
  refine bnd hf (fun x1 h1 hf => ?_)
  refine r_callSi (As := [.int p1, .int 0, .int ((gI s 2526) / 8)]) (st := [.ref (B + 39)]) (pc := 10) X (c_f_M_isIn h1) rfl w_1257 w_1258 w_84 w_1259 hdS_X11_isIn (by decide) (by decide) (by decide) (Nat.le_of_ble_eq_true rfl) dX11_holder_10 rfl ?_
  refine b_if_eq (tgt := 20) (pc := 13) X dX11_holder_13 (by decide) hf (fun hf => ?_) (fun hf => ?_)
  · refine r_iconst (v := 1) (pc := 20) X dX11_holder_20 (by decide) ?_
    refine bnd hf (fun x2 h2 hf => ?_)
    refine r_callVi (As := [.int 1]) (st := []) (pc := 21) X (c_f_M_goes h2) rfl w_1260 w_1262 w_35 w_84 w_1263 hdV_X11_goes (Rc.s rfl ce_39) (by decide) (by decide) (by decide) (Nat.le_of_ble_eq_true rfl) dX11_holder_21 rfl ?_
    refine b_if_eq (tgt := 36) (pc := 24) X dX11_holder_24 (by decide) hf (fun hf => ?_) (fun hf => ?_)
    · refine r_iconst (v := 0) (pc := 36) X dX11_holder_36 (by decide) ?_
      exact e_iret (pc := 37) X hr hf (Nat.le_refl _) (Nat.le_refl _) dX11_holder_37
    · refine r_aload_n (x := some 39) (pc := 27) X dX11_holder_27 0 rfl ?_
      refine r_get (j := 39) (pc := 28) X ce_39 rfl inT11 (by decide) w_1119 rfl dX11_holder_28 ?_
      refine r_iload_n (pc := 31) X dX11_holder_31 1 rfl ?_
      refine b_iald (pc := 32) X ce_58 dX11_holder_32 hf (fun j3 hf => ?_)
      refine r_goto (tgt := 37) (pc := 33) X dX11_holder_33 (by decide) ?_
      exact e_iret (pc := 37) X hr hf (Nat.le_refl _) (Nat.le_refl _) dX11_holder_37
  · refine r_iconst (v := 0) (pc := 16) X dX11_holder_16 (by decide) ?_
    refine r_goto (tgt := 21) (pc := 17) X dX11_holder_17 (by decide) ?_
    refine bnd hf (fun x4 h4 hf => ?_)
    refine r_callVi (As := [.int 0]) (st := []) (pc := 21) X (c_f_M_goes h4) rfl w_1260 w_1262 w_35 w_84 w_1263 hdV_X11_goes (Rc.s rfl ce_39) (by decide) (by decide) (by decide) (Nat.le_of_ble_eq_true rfl) dX11_holder_21 rfl ?_
    refine b_if_eq (tgt := 36) (pc := 24) X dX11_holder_24 (by decide) hf (fun hf => ?_) (fun hf => ?_)
    · refine r_iconst (v := 0) (pc := 36) X dX11_holder_36 (by decide) ?_
      exact e_iret (pc := 37) X hr hf (Nat.le_refl _) (Nat.le_refl _) dX11_holder_37
    · refine r_aload_n (x := some 39) (pc := 27) X dX11_holder_27 0 rfl ?_
      refine r_get (j := 39) (pc := 28) X ce_39 rfl inT11 (by decide) w_1119 rfl dX11_holder_28 ?_
      refine r_iload_n (pc := 31) X dX11_holder_31 1 rfl ?_
      refine b_iald (pc := 32) X ce_58 dX11_holder_32 hf (fun j5 hf => ?_)
      refine r_goto (tgt := 37) (pc := 33) X dX11_holder_33 (by decide) ?_
      exact e_iret (pc := 37) X hr hf (Nat.le_refl _) (Nat.le_refl _) dX11_holder_37
/-! f_M_nights -/
theorem dX11_nights_0 : decode cX11_nights 0 = .ok (.iconst 0, 1) := by decide +kernel
theorem dX11_nights_1 : decode cX11_nights 1 = .ok (.istore_n 2, 1) := by decide +kernel
theorem dX11_nights_2 : decode cX11_nights 2 = .ok (.aload_n 0, 1) := by decide +kernel
theorem dX11_nights_3 : decode cX11_nights 3 = .ok (.aload_n 0, 1) := by decide +kernel
theorem dX11_nights_4 : decode cX11_nights 4 = .ok (.iload_n 1, 1) := by decide +kernel
theorem dX11_nights_5 : decode cX11_nights 5 = .ok (.invokevirtual 324, 3) := by decide +kernel
theorem dX11_nights_8 : decode cX11_nights 8 = .ok (.ifCond .eq 7, 3) := by decide +kernel
theorem dX11_nights_11 : decode cX11_nights 11 = .ok (.iconst 0, 1) := by decide +kernel
theorem dX11_nights_12 : decode cX11_nights 12 = .ok (.goto 4, 3) := by decide +kernel
theorem dX11_nights_15 : decode cX11_nights 15 = .ok (.iconst 1, 1) := by decide +kernel
theorem dX11_nights_16 : decode cX11_nights 16 = .ok (.invokevirtual 263, 3) := by decide +kernel
theorem dX11_nights_19 : decode cX11_nights 19 = .ok (.istore_n 3, 1) := by decide +kernel
theorem dX11_nights_20 : decode cX11_nights 20 = .ok (.iconst 0, 1) := by decide +kernel
theorem dX11_nights_21 : decode cX11_nights 21 = .ok (.istore 4, 2) := by decide +kernel
theorem dX11_nights_23 : decode cX11_nights 23 = .ok (.iload 4, 2) := by decide +kernel
theorem dX11_nights_25 : decode cX11_nights 25 = .ok (.aload_n 0, 1) := by decide +kernel
theorem dX11_nights_26 : decode cX11_nights 26 = .ok (.getfield 269, 3) := by decide +kernel
theorem dX11_nights_29 : decode cX11_nights 29 = .ok (.bipush 8, 2) := by decide +kernel
theorem dX11_nights_31 : decode cX11_nights 31 = .ok (.idiv, 1) := by decide +kernel
theorem dX11_nights_32 : decode cX11_nights 32 = .ok (.if_icmp .gt 40, 3) := by decide +kernel
theorem dX11_nights_35 : decode cX11_nights 35 = .ok (.iload_n 3, 1) := by decide +kernel
theorem dX11_nights_36 : decode cX11_nights 36 = .ok (.ifCond .eq 36, 3) := by decide +kernel
theorem dX11_nights_39 : decode cX11_nights 39 = .ok (.iload_n 2, 1) := by decide +kernel
theorem dX11_nights_40 : decode cX11_nights 40 = .ok (.iload 4, 2) := by decide +kernel
theorem dX11_nights_42 : decode cX11_nights 42 = .ok (.invokestatic 294, 3) := by decide +kernel
theorem dX11_nights_45 : decode cX11_nights 45 = .ok (.ifCond .eq 18, 3) := by decide +kernel
theorem dX11_nights_48 : decode cX11_nights 48 = .ok (.aload_n 0, 1) := by decide +kernel
theorem dX11_nights_49 : decode cX11_nights 49 = .ok (.getfield 66, 3) := by decide +kernel
theorem dX11_nights_52 : decode cX11_nights 52 = .ok (.iload 4, 2) := by decide +kernel
theorem dX11_nights_54 : decode cX11_nights 54 = .ok (.iaload, 1) := by decide +kernel
theorem dX11_nights_55 : decode cX11_nights 55 = .ok (.iload_n 1, 1) := by decide +kernel
theorem dX11_nights_56 : decode cX11_nights 56 = .ok (.if_icmp .ne 7, 3) := by decide +kernel
theorem dX11_nights_59 : decode cX11_nights 59 = .ok (.iconst 1, 1) := by decide +kernel
theorem dX11_nights_60 : decode cX11_nights 60 = .ok (.goto 4, 3) := by decide +kernel
theorem dX11_nights_63 : decode cX11_nights 63 = .ok (.iconst 0, 1) := by decide +kernel
theorem dX11_nights_64 : decode cX11_nights 64 = .ok (.iadd, 1) := by decide +kernel
theorem dX11_nights_65 : decode cX11_nights 65 = .ok (.istore_n 2, 1) := by decide +kernel
theorem dX11_nights_66 : decode cX11_nights 66 = .ok (.iinc 4 1, 3) := by decide +kernel
theorem dX11_nights_69 : decode cX11_nights 69 = .ok (.goto (-46), 3) := by decide +kernel
theorem dX11_nights_72 : decode cX11_nights 72 = .ok (.iload_n 2, 1) := by decide +kernel
theorem dX11_nights_73 : decode cX11_nights 73 = .ok (.ireturn, 1) := by decide +kernel
def f_M_nights_b23 (F : Nat) : Nat → St → Int32 → Int32 → Int32 → Int32 → Option (Int32 × St)
  | 0, _, _, _, _, _ => none
  | n + 1, s, l1, l2, l3, l4 =>
    if ((gI s 2526) / 8) < l4 then
      (some (l2, s))
    else
      (if l3 = 0 then
        (some (l2, s))
      else
        ((f_M_isNight F s l4).bind fun x3 => (if x3.1 = 0 then
          (f_M_nights_b23 F n x3.2 l1 (l2 + 0) l3 (l4 + 1))
        else
          ((ix 126 l4).bind fun j4 => (if (gA x3.2 58 j4) = l1 then
            (f_M_nights_b23 F n x3.2 l1 (l2 + 1) l3 (l4 + 1))
          else
            (f_M_nights_b23 F n x3.2 l1 (l2 + 0) l3 (l4 + 1)))))))
def f_M_nights (F : Nat) (s : St) (p1 : Int32) : Option (Int32 × St) :=
  (f_M_isPerson F s p1).bind fun x1 => (if x1.1 = 0 then
    ((f_M_goes F x1.2 1).bind fun x2 => (f_M_nights_b23 F F x2.2 p1 0 x2.1 0))
  else
    ((f_M_goes F x1.2 0).bind fun x5 => (f_M_nights_b23 F F x5.2 p1 0 x5.1 0)))
set_option maxHeartbeats 1000000 in
theorem c_f_M_nights_b23 {F : Nat} {Γ : Ga} {D : DD} {B : Nat} {r : Int32} {s' : St} (X : Cx Γ RX11 cX11_nights 5 D B { frames := 2, cells := 0, slots := 0, locals := 43 }) (hr : (Gme Γ).sig.returnType = (some .int)) : ∀ (n : Nat) {s : St} {l1 : Int32} {l2 : Int32} {l3 : Int32} {l4 : Int32}, f_M_nights_b23 F n s l1 l2 l3 l4 = some (r, s') → V Γ D B true 5 (QM Γ D B true s' (some (.int r)) 0 0) 0 0 s 23 [(0, .ref (B + 39)), (1, .int l1), (2, .int l2), (3, .int l3), (4, .int l4)] [] := by
  intro n
  induction n with
  | zero => intro s l1 l2 l3 l4 hf; rw [f_M_nights_b23] at hf; cases hf
  | succ n ih =>
    intro s l1 l2 l3 l4 hf
    rw [f_M_nights_b23] at hf
    refine r_iload (pc := 23) X dX11_nights_23 4 rfl ?_
    refine r_aload_n (x := some 39) (pc := 25) X dX11_nights_25 0 rfl ?_
    refine r_get (j := 30) (pc := 26) X ce_39 rfl inT11 (by decide) w_1110 rfl dX11_nights_26 ?_
    refine r_bipush (v := 8) (pc := 29) X dX11_nights_29 (by decide) ?_
    refine r_idiv (pc := 31) X dX11_nights_31 (by decide) ?_
    refine b_icmp_gt (tgt := 72) (pc := 32) X dX11_nights_32 (by decide) hf (fun hf => ?_) (fun hf => ?_)
    · refine r_iload_n (pc := 72) X dX11_nights_72 2 rfl ?_
      exact e_iret (pc := 73) X hr hf (Nat.le_refl _) (Nat.le_refl _) dX11_nights_73
    · refine r_iload_n (pc := 35) X dX11_nights_35 3 rfl ?_
      refine b_if_eq (tgt := 72) (pc := 36) X dX11_nights_36 (by decide) hf (fun hf => ?_) (fun hf => ?_)
      · refine r_iload_n (pc := 72) X dX11_nights_72 2 rfl ?_
        exact e_iret (pc := 73) X hr hf (Nat.le_refl _) (Nat.le_refl _) dX11_nights_73
      · refine r_iload_n (pc := 39) X dX11_nights_39 2 rfl ?_
        refine r_iload (pc := 40) X dX11_nights_40 4 rfl ?_
        refine bnd hf (fun x3 h3 hf => ?_)
        refine r_callSi (As := [.int l4]) (st := [.int l2]) (pc := 42) X (c_f_M_isNight h3) rfl w_1417 w_1418 w_84 w_1419 hdS_X11_isNight (by decide) (by decide) (by decide) (Nat.le_of_ble_eq_true rfl) dX11_nights_42 rfl ?_
        refine b_if_eq (tgt := 63) (pc := 45) X dX11_nights_45 (by decide) hf (fun hf => ?_) (fun hf => ?_)
        · refine r_iconst (v := 0) (pc := 63) X dX11_nights_63 (by decide) ?_
          refine r_iadd (pc := 64) X dX11_nights_64 ?_
          refine r_istore_n (pc := 65) (lv' := [(0, .ref (B + 39)), (1, .int l1), (2, .int (l2 + 0)), (3, .int l3), (4, .int l4)]) X dX11_nights_65 (by decide) [1, 2, 0, 3, 4] rfl ?_
          refine r_iinc (v := l4 + 1) (lv' := [(0, .ref (B + 39)), (1, .int l1), (2, .int (l2 + 0)), (3, .int l3), (4, .int (l4 + 1))]) (pc := 66) X dX11_nights_66 4 rfl rfl (by decide) [1, 2, 3, 4, 0] rfl ?_
          refine r_goto (tgt := 23) (pc := 69) X dX11_nights_69 (by decide) ?_
          exact ih hf
        · refine r_aload_n (x := some 39) (pc := 48) X dX11_nights_48 0 rfl ?_
          refine r_get (j := 39) (pc := 49) X ce_39 rfl inT11 (by decide) w_1119 rfl dX11_nights_49 ?_
          refine r_iload (pc := 52) X dX11_nights_52 4 rfl ?_
          refine b_iald (pc := 54) X ce_58 dX11_nights_54 hf (fun j4 hf => ?_)
          refine r_iload_n (pc := 55) X dX11_nights_55 1 rfl ?_
          refine b_icmp_ne (tgt := 63) (pc := 56) X dX11_nights_56 (by decide) hf (fun hf => ?_) (fun hf => ?_)
          · refine r_iconst (v := 1) (pc := 59) X dX11_nights_59 (by decide) ?_
            refine r_goto (tgt := 64) (pc := 60) X dX11_nights_60 (by decide) ?_
            refine r_iadd (pc := 64) X dX11_nights_64 ?_
            refine r_istore_n (pc := 65) (lv' := [(0, .ref (B + 39)), (1, .int l1), (2, .int (l2 + 1)), (3, .int l3), (4, .int l4)]) X dX11_nights_65 (by decide) [1, 2, 0, 3, 4] rfl ?_
            refine r_iinc (v := l4 + 1) (lv' := [(0, .ref (B + 39)), (1, .int l1), (2, .int (l2 + 1)), (3, .int l3), (4, .int (l4 + 1))]) (pc := 66) X dX11_nights_66 4 rfl rfl (by decide) [1, 2, 3, 4, 0] rfl ?_
            refine r_goto (tgt := 23) (pc := 69) X dX11_nights_69 (by decide) ?_
            exact ih hf
          · refine r_iconst (v := 0) (pc := 63) X dX11_nights_63 (by decide) ?_
            refine r_iadd (pc := 64) X dX11_nights_64 ?_
            refine r_istore_n (pc := 65) (lv' := [(0, .ref (B + 39)), (1, .int l1), (2, .int (l2 + 0)), (3, .int l3), (4, .int l4)]) X dX11_nights_65 (by decide) [1, 2, 0, 3, 4] rfl ?_
            refine r_iinc (v := l4 + 1) (lv' := [(0, .ref (B + 39)), (1, .int l1), (2, .int (l2 + 0)), (3, .int l3), (4, .int (l4 + 1))]) (pc := 66) X dX11_nights_66 4 rfl rfl (by decide) [1, 2, 3, 4, 0] rfl ?_
            refine r_goto (tgt := 23) (pc := 69) X dX11_nights_69 (by decide) ?_
            exact ih hf
set_option maxHeartbeats 1000000 in
theorem c_f_M_nights {F : Nat} {s : St} {p1 : Int32} {r : Int32} {s' : St} (hf : f_M_nights F s p1 = some (r, s')) : CC true yX11_nights (Cond.code yX11_nights cX11_nights 5 (some .int)) 2 43 (fun B => [.ref (B + 39), .int p1]) s (fun B => (some (.int r))) s' 0 0 := by
  refine CC.of (fun B => [(0, .ref (B + 39)), (1, .int p1)]) (by decide +kernel) (fun _ => rfl) (fun _ => (by simp [lg_sl, rfB_cat, catI, catL, catR])) (fun Γ D B X hr hin => ?_)
  have X : Cx Γ RX11 cX11_nights 5 D B { frames := 2, cells := 0, slots := 0, locals := 43 } := X
  unfold f_M_nights at hf
  refine r_iconst (v := 0) (pc := 0) X dX11_nights_0 (by decide) ?_
  refine r_istore_n (pc := 1) (lv' := [(0, .ref (B + 39)), (1, .int p1), (2, .int 0)]) X dX11_nights_1 (by decide) [1, 2, 0] rfl ?_
  refine r_aload_n (x := some 39) (pc := 2) X dX11_nights_2 0 rfl ?_
  refine r_aload_n (x := some 39) (pc := 3) X dX11_nights_3 0 rfl ?_
  refine r_iload_n (pc := 4) X dX11_nights_4 1 rfl ?_
  refine bnd hf (fun x1 h1 hf => ?_)
  refine r_callVi (As := [.int p1]) (st := [.ref (B + 39)]) (pc := 5) X (c_f_M_isPerson h1) rfl w_1456 w_1458 w_69 w_84 w_1459 hdV_X11_isPerson (Rc.s rfl ce_39) (by decide) (by decide) (by decide) (Nat.le_of_ble_eq_true rfl) dX11_nights_5 rfl ?_
  refine b_if_eq (tgt := 15) (pc := 8) X dX11_nights_8 (by decide) hf (fun hf => ?_) (fun hf => ?_)
  · refine r_iconst (v := 1) (pc := 15) X dX11_nights_15 (by decide) ?_
    refine bnd hf (fun x2 h2 hf => ?_)
    refine r_callVi (As := [.int 1]) (st := []) (pc := 16) X (c_f_M_goes h2) rfl w_1260 w_1262 w_35 w_84 w_1263 hdV_X11_goes (Rc.s rfl ce_39) (by decide) (by decide) (by decide) (Nat.le_of_ble_eq_true rfl) dX11_nights_16 rfl ?_
    refine r_istore_n (pc := 19) (lv' := [(0, .ref (B + 39)), (1, .int p1), (2, .int 0), (3, .int x2.1)]) X dX11_nights_19 (by decide) [1, 2, 3, 0] rfl ?_
    refine r_iconst (v := 0) (pc := 20) X dX11_nights_20 (by decide) ?_
    refine r_istore (pc := 21) (lv' := [(0, .ref (B + 39)), (1, .int p1), (2, .int 0), (3, .int x2.1), (4, .int 0)]) X dX11_nights_21 (by decide) [1, 2, 3, 4, 0] rfl ?_
    exact c_f_M_nights_b23 X hr _ hf
  · refine r_iconst (v := 0) (pc := 11) X dX11_nights_11 (by decide) ?_
    refine r_goto (tgt := 16) (pc := 12) X dX11_nights_12 (by decide) ?_
    refine bnd hf (fun x5 h5 hf => ?_)
    refine r_callVi (As := [.int 0]) (st := []) (pc := 16) X (c_f_M_goes h5) rfl w_1260 w_1262 w_35 w_84 w_1263 hdV_X11_goes (Rc.s rfl ce_39) (by decide) (by decide) (by decide) (Nat.le_of_ble_eq_true rfl) dX11_nights_16 rfl ?_
    refine r_istore_n (pc := 19) (lv' := [(0, .ref (B + 39)), (1, .int p1), (2, .int 0), (3, .int x5.1)]) X dX11_nights_19 (by decide) [1, 2, 3, 0] rfl ?_
    refine r_iconst (v := 0) (pc := 20) X dX11_nights_20 (by decide) ?_
    refine r_istore (pc := 21) (lv' := [(0, .ref (B + 39)), (1, .int p1), (2, .int 0), (3, .int x5.1), (4, .int 0)]) X dX11_nights_21 (by decide) [1, 2, 3, 4, 0] rfl ?_
    exact c_f_M_nights_b23 X hr _ hf
