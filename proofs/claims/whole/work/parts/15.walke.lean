/-! f_M_owes -/
theorem dX11_owes_0 : decode cX11_owes 0 = .ok (.iconst 0, 1) := by decide +kernel
theorem dX11_owes_1 : decode cX11_owes 1 = .ok (.istore_n 3, 1) := by decide +kernel
theorem dX11_owes_2 : decode cX11_owes 2 = .ok (.aload_n 0, 1) := by decide +kernel
theorem dX11_owes_3 : decode cX11_owes 3 = .ok (.aload_n 0, 1) := by decide +kernel
theorem dX11_owes_4 : decode cX11_owes 4 = .ok (.iload_n 1, 1) := by decide +kernel
theorem dX11_owes_5 : decode cX11_owes 5 = .ok (.invokevirtual 324, 3) := by decide +kernel
theorem dX11_owes_8 : decode cX11_owes 8 = .ok (.ifCond .eq 15, 3) := by decide +kernel
theorem dX11_owes_11 : decode cX11_owes 11 = .ok (.aload_n 0, 1) := by decide +kernel
theorem dX11_owes_12 : decode cX11_owes 12 = .ok (.iload_n 2, 1) := by decide +kernel
theorem dX11_owes_13 : decode cX11_owes 13 = .ok (.invokevirtual 324, 3) := by decide +kernel
theorem dX11_owes_16 : decode cX11_owes 16 = .ok (.ifCond .eq 7, 3) := by decide +kernel
theorem dX11_owes_19 : decode cX11_owes 19 = .ok (.iconst 0, 1) := by decide +kernel
theorem dX11_owes_20 : decode cX11_owes 20 = .ok (.goto 4, 3) := by decide +kernel
theorem dX11_owes_23 : decode cX11_owes 23 = .ok (.iconst 1, 1) := by decide +kernel
theorem dX11_owes_24 : decode cX11_owes 24 = .ok (.invokevirtual 263, 3) := by decide +kernel
theorem dX11_owes_27 : decode cX11_owes 27 = .ok (.istore 4, 2) := by decide +kernel
theorem dX11_owes_29 : decode cX11_owes 29 = .ok (.iconst 0, 1) := by decide +kernel
theorem dX11_owes_30 : decode cX11_owes 30 = .ok (.istore 5, 2) := by decide +kernel
theorem dX11_owes_32 : decode cX11_owes 32 = .ok (.iload 5, 2) := by decide +kernel
theorem dX11_owes_34 : decode cX11_owes 34 = .ok (.aload_n 0, 1) := by decide +kernel
theorem dX11_owes_35 : decode cX11_owes 35 = .ok (.getfield 291, 3) := by decide +kernel
theorem dX11_owes_38 : decode cX11_owes 38 = .ok (.if_icmp .ge 38, 3) := by decide +kernel
theorem dX11_owes_41 : decode cX11_owes 41 = .ok (.iload 4, 2) := by decide +kernel
theorem dX11_owes_43 : decode cX11_owes 43 = .ok (.ifCond .eq 33, 3) := by decide +kernel
theorem dX11_owes_46 : decode cX11_owes 46 = .ok (.iload_n 3, 1) := by decide +kernel
theorem dX11_owes_47 : decode cX11_owes 47 = .ok (.aload_n 0, 1) := by decide +kernel
theorem dX11_owes_48 : decode cX11_owes 48 = .ok (.getfield 99, 3) := by decide +kernel
theorem dX11_owes_51 : decode cX11_owes 51 = .ok (.iload 5, 2) := by decide +kernel
theorem dX11_owes_53 : decode cX11_owes 53 = .ok (.iaload, 1) := by decide +kernel
theorem dX11_owes_54 : decode cX11_owes 54 = .ok (.bipush 8, 2) := by decide +kernel
theorem dX11_owes_56 : decode cX11_owes 56 = .ok (.iload_n 1, 1) := by decide +kernel
theorem dX11_owes_57 : decode cX11_owes 57 = .ok (.imul, 1) := by decide +kernel
theorem dX11_owes_58 : decode cX11_owes 58 = .ok (.iload_n 2, 1) := by decide +kernel
theorem dX11_owes_59 : decode cX11_owes 59 = .ok (.iadd, 1) := by decide +kernel
theorem dX11_owes_60 : decode cX11_owes 60 = .ok (.if_icmp .ne 7, 3) := by decide +kernel
theorem dX11_owes_63 : decode cX11_owes 63 = .ok (.iconst 1, 1) := by decide +kernel
theorem dX11_owes_64 : decode cX11_owes 64 = .ok (.goto 4, 3) := by decide +kernel
theorem dX11_owes_67 : decode cX11_owes 67 = .ok (.iconst 0, 1) := by decide +kernel
theorem dX11_owes_68 : decode cX11_owes 68 = .ok (.iadd, 1) := by decide +kernel
theorem dX11_owes_69 : decode cX11_owes 69 = .ok (.istore_n 3, 1) := by decide +kernel
theorem dX11_owes_70 : decode cX11_owes 70 = .ok (.iinc 5 1, 3) := by decide +kernel
theorem dX11_owes_73 : decode cX11_owes 73 = .ok (.goto (-41), 3) := by decide +kernel
theorem dX11_owes_76 : decode cX11_owes 76 = .ok (.iload_n 3, 1) := by decide +kernel
theorem dX11_owes_77 : decode cX11_owes 77 = .ok (.ireturn, 1) := by decide +kernel
def f_M_owes_b32 (F : Nat) : Nat → St → Int32 → Int32 → Int32 → Int32 → Int32 → Option (Int32 × St)
  | 0, _, _, _, _, _, _ => none
  | n + 1, s, l1, l2, l3, l4, l5 =>
    if (gI s 2548) ≤ l5 then
      (some (l3, s))
    else
      (if l4 = 0 then
        (some (l3, s))
      else
        ((ix 4000 l5).bind fun j3 => (if (gA s 69 j3) = (((8 : Int32) * l1) + l2) then
          (f_M_owes_b32 F n s l1 l2 (l3 + 1) l4 (l5 + 1))
        else
          (f_M_owes_b32 F n s l1 l2 (l3 + 0) l4 (l5 + 1)))))
def f_M_owes (F : Nat) (s : St) (p1 : Int32) (p2 : Int32) : Option (Int32 × St) :=
  (f_M_isPerson F s p1).bind fun x1 => (if x1.1 = 0 then
    ((f_M_goes F x1.2 1).bind fun x2 => (f_M_owes_b32 F F x2.2 p1 p2 0 x2.1 0))
  else
    ((f_M_isPerson F x1.2 p2).bind fun x4 => (if x4.1 = 0 then
      ((f_M_goes F x4.2 1).bind fun x5 => (f_M_owes_b32 F F x5.2 p1 p2 0 x5.1 0))
    else
      ((f_M_goes F x4.2 0).bind fun x6 => (f_M_owes_b32 F F x6.2 p1 p2 0 x6.1 0)))))
set_option maxHeartbeats 1000000 in
theorem c_f_M_owes_b32 {F : Nat} {Γ : Ga} {D : DD} {B : Nat} {r : Int32} {s' : St} (X : Cx Γ RX11 cX11_owes 6 D B { frames := 2, cells := 0, slots := 0, locals := 43 }) (hr : (Gme Γ).sig.returnType = (some .int)) : ∀ (n : Nat) {s : St} {l1 : Int32} {l2 : Int32} {l3 : Int32} {l4 : Int32} {l5 : Int32}, f_M_owes_b32 F n s l1 l2 l3 l4 l5 = some (r, s') → V Γ D B true 6 (QM Γ D B true s' (some (.int r)) 0 0) 0 0 s 32 [(0, .ref (B + 39)), (1, .int l1), (2, .int l2), (3, .int l3), (4, .int l4), (5, .int l5)] [] := by
  intro n
  induction n with
  | zero => intro s l1 l2 l3 l4 l5 hf; rw [f_M_owes_b32] at hf; cases hf
  | succ n ih =>
    intro s l1 l2 l3 l4 l5 hf
    rw [f_M_owes_b32] at hf
    refine r_iload (pc := 32) X dX11_owes_32 5 rfl ?_
    refine r_aload_n (x := some 39) (pc := 34) X dX11_owes_34 0 rfl ?_
    refine r_get (j := 52) (pc := 35) X ce_39 rfl inT11 (by decide) w_1132 rfl dX11_owes_35 ?_
    refine b_icmp_ge (tgt := 76) (pc := 38) X dX11_owes_38 (by decide) hf (fun hf => ?_) (fun hf => ?_)
    · refine r_iload_n (pc := 76) X dX11_owes_76 3 rfl ?_
      exact e_iret (pc := 77) X hr hf (Nat.le_refl _) (Nat.le_refl _) dX11_owes_77
    · refine r_iload (pc := 41) X dX11_owes_41 4 rfl ?_
      refine b_if_eq (tgt := 76) (pc := 43) X dX11_owes_43 (by decide) hf (fun hf => ?_) (fun hf => ?_)
      · refine r_iload_n (pc := 76) X dX11_owes_76 3 rfl ?_
        exact e_iret (pc := 77) X hr hf (Nat.le_refl _) (Nat.le_refl _) dX11_owes_77
      · refine r_iload_n (pc := 46) X dX11_owes_46 3 rfl ?_
        refine r_aload_n (x := some 39) (pc := 47) X dX11_owes_47 0 rfl ?_
        refine r_get (j := 53) (pc := 48) X ce_39 rfl inT11 (by decide) w_1133 rfl dX11_owes_48 ?_
        refine r_iload (pc := 51) X dX11_owes_51 5 rfl ?_
        refine b_iald (pc := 53) X ce_69 dX11_owes_53 hf (fun j3 hf => ?_)
        refine r_bipush (v := 8) (pc := 54) X dX11_owes_54 (by decide) ?_
        refine r_iload_n (pc := 56) X dX11_owes_56 1 rfl ?_
        refine r_imul (pc := 57) X dX11_owes_57 ?_
        refine r_iload_n (pc := 58) X dX11_owes_58 2 rfl ?_
        refine r_iadd (pc := 59) X dX11_owes_59 ?_
        refine b_icmp_ne (tgt := 67) (pc := 60) X dX11_owes_60 (by decide) hf (fun hf => ?_) (fun hf => ?_)
        · refine r_iconst (v := 1) (pc := 63) X dX11_owes_63 (by decide) ?_
          refine r_goto (tgt := 68) (pc := 64) X dX11_owes_64 (by decide) ?_
          refine r_iadd (pc := 68) X dX11_owes_68 ?_
          refine r_istore_n (pc := 69) (lv' := [(0, .ref (B + 39)), (1, .int l1), (2, .int l2), (3, .int (l3 + 1)), (4, .int l4), (5, .int l5)]) X dX11_owes_69 (by decide) [1, 2, 3, 0, 4, 5] rfl ?_
          refine r_iinc (v := l5 + 1) (lv' := [(0, .ref (B + 39)), (1, .int l1), (2, .int l2), (3, .int (l3 + 1)), (4, .int l4), (5, .int (l5 + 1))]) (pc := 70) X dX11_owes_70 5 rfl rfl (by decide) [1, 2, 3, 4, 5, 0] rfl ?_
          refine r_goto (tgt := 32) (pc := 73) X dX11_owes_73 (by decide) ?_
          exact ih hf
        · refine r_iconst (v := 0) (pc := 67) X dX11_owes_67 (by decide) ?_
          refine r_iadd (pc := 68) X dX11_owes_68 ?_
          refine r_istore_n (pc := 69) (lv' := [(0, .ref (B + 39)), (1, .int l1), (2, .int l2), (3, .int (l3 + 0)), (4, .int l4), (5, .int l5)]) X dX11_owes_69 (by decide) [1, 2, 3, 0, 4, 5] rfl ?_
          refine r_iinc (v := l5 + 1) (lv' := [(0, .ref (B + 39)), (1, .int l1), (2, .int l2), (3, .int (l3 + 0)), (4, .int l4), (5, .int (l5 + 1))]) (pc := 70) X dX11_owes_70 5 rfl rfl (by decide) [1, 2, 3, 4, 5, 0] rfl ?_
          refine r_goto (tgt := 32) (pc := 73) X dX11_owes_73 (by decide) ?_
          exact ih hf
set_option maxHeartbeats 1000000 in
theorem c_f_M_owes {F : Nat} {s : St} {p1 : Int32} {p2 : Int32} {r : Int32} {s' : St} (hf : f_M_owes F s p1 p2 = some (r, s')) : CC true yX11_owes (Cond.code yX11_owes cX11_owes 6 (some .int)) 2 43 (fun B => [.ref (B + 39), .int p1, .int p2]) s (fun B => (some (.int r))) s' 0 0 := by
  refine CC.of (fun B => [(0, .ref (B + 39)), (1, .int p1), (2, .int p2)]) (by decide +kernel) (fun _ => rfl) (fun _ => (by simp [lg_sl, rfB_cat, catI, catL, catR])) (fun Γ D B X hr hin => ?_)
  have X : Cx Γ RX11 cX11_owes 6 D B { frames := 2, cells := 0, slots := 0, locals := 43 } := X
  unfold f_M_owes at hf
  refine r_iconst (v := 0) (pc := 0) X dX11_owes_0 (by decide) ?_
  refine r_istore_n (pc := 1) (lv' := [(0, .ref (B + 39)), (1, .int p1), (2, .int p2), (3, .int 0)]) X dX11_owes_1 (by decide) [1, 2, 3, 0] rfl ?_
  refine r_aload_n (x := some 39) (pc := 2) X dX11_owes_2 0 rfl ?_
  refine r_aload_n (x := some 39) (pc := 3) X dX11_owes_3 0 rfl ?_
  refine r_iload_n (pc := 4) X dX11_owes_4 1 rfl ?_
  refine bnd hf (fun x1 h1 hf => ?_)
  refine r_callVi (As := [.int p1]) (st := [.ref (B + 39)]) (pc := 5) X (c_f_M_isPerson h1) rfl w_1456 w_1458 w_69 w_84 w_1459 hdV_X11_isPerson (Rc.s rfl ce_39) (by decide) (by decide) (by decide) (Nat.le_of_ble_eq_true rfl) dX11_owes_5 rfl ?_
  refine b_if_eq (tgt := 23) (pc := 8) X dX11_owes_8 (by decide) hf (fun hf => ?_) (fun hf => ?_)
  · refine r_iconst (v := 1) (pc := 23) X dX11_owes_23 (by decide) ?_
    refine bnd hf (fun x2 h2 hf => ?_)
    refine r_callVi (As := [.int 1]) (st := []) (pc := 24) X (c_f_M_goes h2) rfl w_1260 w_1262 w_35 w_84 w_1263 hdV_X11_goes (Rc.s rfl ce_39) (by decide) (by decide) (by decide) (Nat.le_of_ble_eq_true rfl) dX11_owes_24 rfl ?_
    refine r_istore (pc := 27) (lv' := [(0, .ref (B + 39)), (1, .int p1), (2, .int p2), (3, .int 0), (4, .int x2.1)]) X dX11_owes_27 (by decide) [1, 2, 3, 4, 0] rfl ?_
    refine r_iconst (v := 0) (pc := 29) X dX11_owes_29 (by decide) ?_
    refine r_istore (pc := 30) (lv' := [(0, .ref (B + 39)), (1, .int p1), (2, .int p2), (3, .int 0), (4, .int x2.1), (5, .int 0)]) X dX11_owes_30 (by decide) [1, 2, 3, 4, 5, 0] rfl ?_
    exact c_f_M_owes_b32 X hr _ hf
  · refine r_aload_n (x := some 39) (pc := 11) X dX11_owes_11 0 rfl ?_
    refine r_iload_n (pc := 12) X dX11_owes_12 2 rfl ?_
    refine bnd hf (fun x4 h4 hf => ?_)
    refine r_callVi (As := [.int p2]) (st := [.ref (B + 39)]) (pc := 13) X (c_f_M_isPerson h4) rfl w_1456 w_1458 w_69 w_84 w_1459 hdV_X11_isPerson (Rc.s rfl ce_39) (by decide) (by decide) (by decide) (Nat.le_of_ble_eq_true rfl) dX11_owes_13 rfl ?_
    refine b_if_eq (tgt := 23) (pc := 16) X dX11_owes_16 (by decide) hf (fun hf => ?_) (fun hf => ?_)
    · refine r_iconst (v := 1) (pc := 23) X dX11_owes_23 (by decide) ?_
      refine bnd hf (fun x5 h5 hf => ?_)
      refine r_callVi (As := [.int 1]) (st := []) (pc := 24) X (c_f_M_goes h5) rfl w_1260 w_1262 w_35 w_84 w_1263 hdV_X11_goes (Rc.s rfl ce_39) (by decide) (by decide) (by decide) (Nat.le_of_ble_eq_true rfl) dX11_owes_24 rfl ?_
      refine r_istore (pc := 27) (lv' := [(0, .ref (B + 39)), (1, .int p1), (2, .int p2), (3, .int 0), (4, .int x5.1)]) X dX11_owes_27 (by decide) [1, 2, 3, 4, 0] rfl ?_
      refine r_iconst (v := 0) (pc := 29) X dX11_owes_29 (by decide) ?_
      refine r_istore (pc := 30) (lv' := [(0, .ref (B + 39)), (1, .int p1), (2, .int p2), (3, .int 0), (4, .int x5.1), (5, .int 0)]) X dX11_owes_30 (by decide) [1, 2, 3, 4, 5, 0] rfl ?_
      exact c_f_M_owes_b32 X hr _ hf
    · refine r_iconst (v := 0) (pc := 19) X dX11_owes_19 (by decide) ?_
      refine r_goto (tgt := 24) (pc := 20) X dX11_owes_20 (by decide) ?_
      refine bnd hf (fun x6 h6 hf => ?_)
      refine r_callVi (As := [.int 0]) (st := []) (pc := 24) X (c_f_M_goes h6) rfl w_1260 w_1262 w_35 w_84 w_1263 hdV_X11_goes (Rc.s rfl ce_39) (by decide) (by decide) (by decide) (Nat.le_of_ble_eq_true rfl) dX11_owes_24 rfl ?_
      refine r_istore (pc := 27) (lv' := [(0, .ref (B + 39)), (1, .int p1), (2, .int p2), (3, .int 0), (4, .int x6.1)]) X dX11_owes_27 (by decide) [1, 2, 3, 4, 0] rfl ?_
      refine r_iconst (v := 0) (pc := 29) X dX11_owes_29 (by decide) ?_
      refine r_istore (pc := 30) (lv' := [(0, .ref (B + 39)), (1, .int p1), (2, .int p2), (3, .int 0), (4, .int x6.1), (5, .int 0)]) X dX11_owes_30 (by decide) [1, 2, 3, 4, 5, 0] rfl ?_
      exact c_f_M_owes_b32 X hr _ hf
/-! f_M_isRule -/
theorem dX11_isRule_0 : decode cX11_isRule 0 = .ok (.iload_n 1, 1) := by decide +kernel
theorem dX11_isRule_1 : decode cX11_isRule 1 = .ok (.iconst 0, 1) := by decide +kernel
theorem dX11_isRule_2 : decode cX11_isRule 2 = .ok (.aload_n 0, 1) := by decide +kernel
theorem dX11_isRule_3 : decode cX11_isRule 3 = .ok (.getfield 315, 3) := by decide +kernel
theorem dX11_isRule_6 : decode cX11_isRule 6 = .ok (.iconst 1, 1) := by decide +kernel
theorem dX11_isRule_7 : decode cX11_isRule 7 = .ok (.isub, 1) := by decide +kernel
theorem dX11_isRule_8 : decode cX11_isRule 8 = .ok (.invokestatic 109, 3) := by decide +kernel
theorem dX11_isRule_11 : decode cX11_isRule 11 = .ok (.ireturn, 1) := by decide +kernel
def f_M_isRule (F : Nat) (s : St) (p1 : Int32) : Option (Int32 × St) :=
  (f_M_isIn F s p1 0 ((gI s 2536) - 1)).bind fun x1 => (if x1.1 = 0 ∨ x1.1 = 1 then (some (x1.1, x1.2)) else none)
set_option maxHeartbeats 1000000 in
theorem c_f_M_isRule {F : Nat} {s : St} {p1 : Int32} {r : Int32} {s' : St} (hf : f_M_isRule F s p1 = some (r, s')) : CC true yX11_isRule (Cond.code yX11_isRule cX11_isRule 2 (some .boolean)) 1 22 (fun B => [.ref (B + 39), .int p1]) s (fun B => (some (.int r))) s' 0 0 := by
  refine CC.of (fun B => [(0, .ref (B + 39)), (1, .int p1)]) (by decide +kernel) (fun _ => rfl) (fun _ => (by simp [lg_sl, rfB_cat, catI, catL, catR])) (fun Γ D B X hr hin => ?_)
  have X : Cx Γ RX11 cX11_isRule 2 D B { frames := 1, cells := 0, slots := 0, locals := 22 } := X
  unfold f_M_isRule at hf
  refine r_iload_n (pc := 0) X dX11_isRule_0 1 rfl ?_
  refine r_iconst (v := 0) (pc := 1) X dX11_isRule_1 (by decide) ?_
  refine r_aload_n (x := some 39) (pc := 2) X dX11_isRule_2 0 rfl ?_
  refine r_get (j := 40) (pc := 3) X ce_39 rfl inT11 (by decide) w_1120 rfl dX11_isRule_3 ?_
  refine r_iconst (v := 1) (pc := 6) X dX11_isRule_6 (by decide) ?_
  refine r_isub (pc := 7) X dX11_isRule_7 ?_
  refine bnd hf (fun x1 h1 hf => ?_)
  refine r_callSi (As := [.int p1, .int 0, .int ((gI s 2536) - 1)]) (st := []) (pc := 8) X (c_f_M_isIn h1) rfl w_1257 w_1258 w_84 w_1259 hdS_X11_isIn (by decide) (by decide) (by decide) (Nat.le_of_ble_eq_true rfl) dX11_isRule_8 rfl ?_
  refine ifo hf (fun hx hf => ?_)
  exact e_zret (pc := 11) X hr hx hf (Nat.le_refl _) (Nat.le_refl _) dX11_isRule_11
/-! f_M_addRule -/
theorem dX11_addRule_0 : decode cX11_addRule 0 = .ok (.aload_n 0, 1) := by decide +kernel
theorem dX11_addRule_1 : decode cX11_addRule 1 = .ok (.iconst 4, 1) := by decide +kernel
theorem dX11_addRule_2 : decode cX11_addRule 2 = .ok (.invokevirtual 266, 3) := by decide +kernel
theorem dX11_addRule_5 : decode cX11_addRule 5 = .ok (.istore 4, 2) := by decide +kernel
theorem dX11_addRule_7 : decode cX11_addRule 7 = .ok (.iload_n 2, 1) := by decide +kernel
theorem dX11_addRule_8 : decode cX11_addRule 8 = .ok (.iconst 1, 1) := by decide +kernel
theorem dX11_addRule_9 : decode cX11_addRule 9 = .ok (.bipush 72, 2) := by decide +kernel
theorem dX11_addRule_11 : decode cX11_addRule 11 = .ok (.invokestatic 109, 3) := by decide +kernel
theorem dX11_addRule_14 : decode cX11_addRule 14 = .ok (.ifCond .eq 17, 3) := by decide +kernel
theorem dX11_addRule_17 : decode cX11_addRule 17 = .ok (.iload_n 3, 1) := by decide +kernel
theorem dX11_addRule_18 : decode cX11_addRule 18 = .ok (.iconst 0, 1) := by decide +kernel
theorem dX11_addRule_19 : decode cX11_addRule 19 = .ok (.bipush 72, 2) := by decide +kernel
theorem dX11_addRule_21 : decode cX11_addRule 21 = .ok (.invokestatic 109, 3) := by decide +kernel
theorem dX11_addRule_24 : decode cX11_addRule 24 = .ok (.ifCond .eq 7, 3) := by decide +kernel
theorem dX11_addRule_27 : decode cX11_addRule 27 = .ok (.iconst 1, 1) := by decide +kernel
theorem dX11_addRule_28 : decode cX11_addRule 28 = .ok (.goto 4, 3) := by decide +kernel
theorem dX11_addRule_31 : decode cX11_addRule 31 = .ok (.iconst 0, 1) := by decide +kernel
theorem dX11_addRule_32 : decode cX11_addRule 32 = .ok (.istore 5, 2) := by decide +kernel
theorem dX11_addRule_34 : decode cX11_addRule 34 = .ok (.aload_n 0, 1) := by decide +kernel
theorem dX11_addRule_35 : decode cX11_addRule 35 = .ok (.aload_n 0, 1) := by decide +kernel
theorem dX11_addRule_36 : decode cX11_addRule 36 = .ok (.iload_n 1, 1) := by decide +kernel
theorem dX11_addRule_37 : decode cX11_addRule 37 = .ok (.invokevirtual 324, 3) := by decide +kernel
theorem dX11_addRule_40 : decode cX11_addRule 40 = .ok (.ifCond .ne 7, 3) := by decide +kernel
theorem dX11_addRule_43 : decode cX11_addRule 43 = .ok (.iconst 1, 1) := by decide +kernel
theorem dX11_addRule_44 : decode cX11_addRule 44 = .ok (.goto 31, 3) := by decide +kernel
theorem dX11_addRule_47 : decode cX11_addRule 47 = .ok (.iload 5, 2) := by decide +kernel
theorem dX11_addRule_49 : decode cX11_addRule 49 = .ok (.ifCond .ne 7, 3) := by decide +kernel
theorem dX11_addRule_52 : decode cX11_addRule 52 = .ok (.iconst 2, 1) := by decide +kernel
theorem dX11_addRule_53 : decode cX11_addRule 53 = .ok (.goto 22, 3) := by decide +kernel
theorem dX11_addRule_56 : decode cX11_addRule 56 = .ok (.iload 4, 2) := by decide +kernel
theorem dX11_addRule_58 : decode cX11_addRule 58 = .ok (.iconst (-1), 1) := by decide +kernel
theorem dX11_addRule_59 : decode cX11_addRule 59 = .ok (.if_icmp .ne 11, 3) := by decide +kernel
theorem dX11_addRule_62 : decode cX11_addRule 62 = .ok (.aload_n 0, 1) := by decide +kernel
theorem dX11_addRule_63 : decode cX11_addRule 63 = .ok (.getfield 315, 3) := by decide +kernel
theorem dX11_addRule_66 : decode cX11_addRule 66 = .ok (.iconst 4, 1) := by decide +kernel
theorem dX11_addRule_67 : decode cX11_addRule 67 = .ok (.if_icmp .ne 7, 3) := by decide +kernel
theorem dX11_addRule_70 : decode cX11_addRule 70 = .ok (.iconst 3, 1) := by decide +kernel
theorem dX11_addRule_71 : decode cX11_addRule 71 = .ok (.goto 4, 3) := by decide +kernel
theorem dX11_addRule_74 : decode cX11_addRule 74 = .ok (.iconst 0, 1) := by decide +kernel
theorem dX11_addRule_75 : decode cX11_addRule 75 = .ok (.invokevirtual 263, 3) := by decide +kernel
theorem dX11_addRule_78 : decode cX11_addRule 78 = .ok (.ifCond .ne 5, 3) := by decide +kernel
theorem dX11_addRule_81 : decode cX11_addRule 81 = .ok (.iconst 0, 1) := by decide +kernel
theorem dX11_addRule_82 : decode cX11_addRule 82 = .ok (.ireturn, 1) := by decide +kernel
theorem dX11_addRule_83 : decode cX11_addRule 83 = .ok (.aload_n 0, 1) := by decide +kernel
theorem dX11_addRule_84 : decode cX11_addRule 84 = .ok (.aload_n 0, 1) := by decide +kernel
theorem dX11_addRule_85 : decode cX11_addRule 85 = .ok (.getfield 315, 3) := by decide +kernel
theorem dX11_addRule_88 : decode cX11_addRule 88 = .ok (.invokevirtual 266, 3) := by decide +kernel
theorem dX11_addRule_91 : decode cX11_addRule 91 = .ok (.istore 4, 2) := by decide +kernel
theorem dX11_addRule_93 : decode cX11_addRule 93 = .ok (.aload_n 0, 1) := by decide +kernel
theorem dX11_addRule_94 : decode cX11_addRule 94 = .ok (.getfield 69, 3) := by decide +kernel
theorem dX11_addRule_97 : decode cX11_addRule 97 = .ok (.aload_n 0, 1) := by decide +kernel
theorem dX11_addRule_98 : decode cX11_addRule 98 = .ok (.getfield 315, 3) := by decide +kernel
theorem dX11_addRule_101 : decode cX11_addRule 101 = .ok (.iload_n 1, 1) := by decide +kernel
theorem dX11_addRule_102 : decode cX11_addRule 102 = .ok (.iastore, 1) := by decide +kernel
theorem dX11_addRule_103 : decode cX11_addRule 103 = .ok (.aload_n 0, 1) := by decide +kernel
theorem dX11_addRule_104 : decode cX11_addRule 104 = .ok (.getfield 72, 3) := by decide +kernel
theorem dX11_addRule_107 : decode cX11_addRule 107 = .ok (.aload_n 0, 1) := by decide +kernel
theorem dX11_addRule_108 : decode cX11_addRule 108 = .ok (.getfield 315, 3) := by decide +kernel
theorem dX11_addRule_111 : decode cX11_addRule 111 = .ok (.iload_n 2, 1) := by decide +kernel
theorem dX11_addRule_112 : decode cX11_addRule 112 = .ok (.iastore, 1) := by decide +kernel
theorem dX11_addRule_113 : decode cX11_addRule 113 = .ok (.aload_n 0, 1) := by decide +kernel
theorem dX11_addRule_114 : decode cX11_addRule 114 = .ok (.getfield 75, 3) := by decide +kernel
theorem dX11_addRule_117 : decode cX11_addRule 117 = .ok (.aload_n 0, 1) := by decide +kernel
theorem dX11_addRule_118 : decode cX11_addRule 118 = .ok (.getfield 315, 3) := by decide +kernel
theorem dX11_addRule_121 : decode cX11_addRule 121 = .ok (.iload_n 3, 1) := by decide +kernel
theorem dX11_addRule_122 : decode cX11_addRule 122 = .ok (.iastore, 1) := by decide +kernel
theorem dX11_addRule_123 : decode cX11_addRule 123 = .ok (.aload_n 0, 1) := by decide +kernel
theorem dX11_addRule_124 : decode cX11_addRule 124 = .ok (.dup, 1) := by decide +kernel
theorem dX11_addRule_125 : decode cX11_addRule 125 = .ok (.getfield 315, 3) := by decide +kernel
theorem dX11_addRule_128 : decode cX11_addRule 128 = .ok (.iconst 1, 1) := by decide +kernel
theorem dX11_addRule_129 : decode cX11_addRule 129 = .ok (.iadd, 1) := by decide +kernel
theorem dX11_addRule_130 : decode cX11_addRule 130 = .ok (.putfield 315, 3) := by decide +kernel
theorem dX11_addRule_133 : decode cX11_addRule 133 = .ok (.aload_n 0, 1) := by decide +kernel
theorem dX11_addRule_134 : decode cX11_addRule 134 = .ok (.getfield 315, 3) := by decide +kernel
theorem dX11_addRule_137 : decode cX11_addRule 137 = .ok (.iconst 1, 1) := by decide +kernel
theorem dX11_addRule_138 : decode cX11_addRule 138 = .ok (.isub, 1) := by decide +kernel
theorem dX11_addRule_139 : decode cX11_addRule 139 = .ok (.ireturn, 1) := by decide +kernel
def f_M_addRule_b75 (F : Nat) (s : St) (l1 : Int32) (l2 : Int32) (l3 : Int32) (t1 : Int32) : Option (Int32 × St) :=
  (f_M_goes F s t1).bind fun x4 => (if x4.1 = 0 then
    (some (0, x4.2))
  else
    ((f_M_turns F x4.2 (gI x4.2 2536)).bind fun x5 => ((ix 4 (gI x5.2 2536)).bind fun j6 => (lt (sA x5.2 59 j6 l1) fun s7 => ((ix 4 (gI s7 2536)).bind fun j8 => (lt (sA s7 60 j8 l2) fun s9 => ((ix 4 (gI s9 2536)).bind fun j10 => (lt (sA s9 61 j10 l3) fun s11 => (lt (sI s11 2536 ((gI s11 2536) + 1)) fun s12 => (some (((gI s12 2536) - 1), s12)))))))))))
def f_M_addRule_b32 (F : Nat) (s : St) (l1 : Int32) (l2 : Int32) (l3 : Int32) (l4 : Int32) (t0 : Int32) : Option (Int32 × St) :=
  (f_M_isPerson F s l1).bind fun x3 => (if x3.1 = 0 then
    (f_M_addRule_b75 F x3.2 l1 l2 l3 1)
  else
    (if t0 = 0 then
      (f_M_addRule_b75 F x3.2 l1 l2 l3 2)
    else
      (if l4 = (-1) then
        (if (gI x3.2 2536) = 4 then
          (f_M_addRule_b75 F x3.2 l1 l2 l3 3)
        else
          (f_M_addRule_b75 F x3.2 l1 l2 l3 0))
      else
        (f_M_addRule_b75 F x3.2 l1 l2 l3 3))))
def f_M_addRule (F : Nat) (s : St) (p1 : Int32) (p2 : Int32) (p3 : Int32) : Option (Int32 × St) :=
  (f_M_turns F s 4).bind fun x1 => ((f_M_isIn F x1.2 p2 1 72).bind fun x2 => (if x2.1 = 0 then
    (f_M_addRule_b32 F x2.2 p1 p2 p3 x1.1 0)
  else
    ((f_M_isIn F x2.2 p3 0 72).bind fun x13 => (if x13.1 = 0 then
      (f_M_addRule_b32 F x13.2 p1 p2 p3 x1.1 0)
    else
      (f_M_addRule_b32 F x13.2 p1 p2 p3 x1.1 1)))))
set_option maxHeartbeats 1000000 in
theorem c_f_M_addRule_b75 {F : Nat} {Γ : Ga} {D : DD} {B : Nat} {r : Int32} {s' : St} (X : Cx Γ RX11 cX11_addRule 6 D B { frames := 6, cells := 0, slots := 0, locals := 130 }) (hr : (Gme Γ).sig.returnType = (some .int)) {s : St} {l1 : Int32} {l2 : Int32} {l3 : Int32} {t1 : Int32} (hf : f_M_addRule_b75 F s l1 l2 l3 t1 = some (r, s')) : V Γ D B true 6 (QM Γ D B true s' (some (.int r)) 0 0) 0 0 s 75 [(0, .ref (B + 39)), (1, .int l1), (2, .int l2), (3, .int l3)] [.int t1, .ref (B + 39)] := by
  unfold f_M_addRule_b75 at hf
  refine bnd hf (fun x4 h4 hf => ?_)
  refine r_callVi (As := [.int t1]) (st := []) (pc := 75) X (c_f_M_goes h4) rfl w_1260 w_1262 w_35 w_84 w_1263 hdV_X11_goes (Rc.s rfl ce_39) (by decide) (by decide) (by decide) (Nat.le_of_ble_eq_true rfl) dX11_addRule_75 rfl ?_
  refine b_if_ne (tgt := 83) (pc := 78) X dX11_addRule_78 (by decide) hf (fun hf => ?_) (fun hf => ?_)
  · refine r_iconst (v := 0) (pc := 81) X dX11_addRule_81 (by decide) ?_
    exact e_iret (pc := 82) X hr hf (Nat.le_refl _) (Nat.le_refl _) dX11_addRule_82
  · refine r_aload_n (x := some 39) (pc := 83) X dX11_addRule_83 0 rfl ?_
    refine r_aload_n (x := some 39) (pc := 84) X dX11_addRule_84 0 rfl ?_
    refine r_get (j := 40) (pc := 85) X ce_39 rfl inT11 (by decide) w_1120 rfl dX11_addRule_85 ?_
    refine bnd hf (fun x5 h5 hf => ?_)
    refine r_callVi (As := [.int (gI x4.2 2536)]) (st := []) (pc := 88) X (c_f_M_turns h5) rfl w_1272 w_1274 w_36 w_84 w_1275 hdV_X11_turns (Rc.s rfl ce_39) (by decide) (by decide) (by decide) (Nat.le_of_ble_eq_true rfl) dX11_addRule_88 rfl ?_
    refine r_istore (pc := 91) (lv' := [(0, .ref (B + 39)), (1, .int l1), (2, .int l2), (3, .int l3)]) X dX11_addRule_91 (by decide) [1, 2, 3, 4] rfl ?_
    refine r_aload_n (x := some 39) (pc := 93) X dX11_addRule_93 0 rfl ?_
    refine r_get (j := 41) (pc := 94) X ce_39 rfl inT11 (by decide) w_1121 rfl dX11_addRule_94 ?_
    refine r_aload_n (x := some 39) (pc := 97) X dX11_addRule_97 0 rfl ?_
    refine r_get (j := 40) (pc := 98) X ce_39 rfl inT11 (by decide) w_1120 rfl dX11_addRule_98 ?_
    refine r_iload_n (pc := 101) X dX11_addRule_101 1 rfl ?_
    refine b_iast (pc := 102) X ce_59 (fun _ => ca_59 _ _) dX11_addRule_102 hf (fun j6 s7 hf => ?_)
    refine r_aload_n (x := some 39) (pc := 103) X dX11_addRule_103 0 rfl ?_
    refine r_get (j := 42) (pc := 104) X ce_39 rfl inT11 (by decide) w_1122 rfl dX11_addRule_104 ?_
    refine r_aload_n (x := some 39) (pc := 107) X dX11_addRule_107 0 rfl ?_
    refine r_get (j := 40) (pc := 108) X ce_39 rfl inT11 (by decide) w_1120 rfl dX11_addRule_108 ?_
    refine r_iload_n (pc := 111) X dX11_addRule_111 2 rfl ?_
    refine b_iast (pc := 112) X ce_60 (fun _ => ca_60 _ _) dX11_addRule_112 hf (fun j8 s9 hf => ?_)
    refine r_aload_n (x := some 39) (pc := 113) X dX11_addRule_113 0 rfl ?_
    refine r_get (j := 43) (pc := 114) X ce_39 rfl inT11 (by decide) w_1123 rfl dX11_addRule_114 ?_
    refine r_aload_n (x := some 39) (pc := 117) X dX11_addRule_117 0 rfl ?_
    refine r_get (j := 40) (pc := 118) X ce_39 rfl inT11 (by decide) w_1120 rfl dX11_addRule_118 ?_
    refine r_iload_n (pc := 121) X dX11_addRule_121 3 rfl ?_
    refine b_iast (pc := 122) X ce_61 (fun _ => ca_61 _ _) dX11_addRule_122 hf (fun j10 s11 hf => ?_)
    refine r_aload_n (x := some 39) (pc := 123) X dX11_addRule_123 0 rfl ?_
    refine r_dup (pc := 124) X dX11_addRule_124 rfl ?_
    refine r_get (j := 40) (pc := 125) X ce_39 rfl inT11 (by decide) w_1120 rfl dX11_addRule_125 ?_
    refine r_iconst (v := 1) (pc := 128) X dX11_addRule_128 (by decide) ?_
    refine r_iadd (pc := 129) X dX11_addRule_129 ?_
    refine b_put (j := 40) (pc := 130) X ce_39 rfl inT11 tyX11 tyX11_ok nmX11 (by decide) w_1120 rfl (tyX11_ok 40 (by decide)) rfl rfl (Nat.le_of_ble_eq_true rfl) (cp_2536 _) rfl rfl dX11_addRule_130 hf (fun s12 hf => ?_)
    refine r_aload_n (x := some 39) (pc := 133) X dX11_addRule_133 0 rfl ?_
    refine r_get (j := 40) (pc := 134) X ce_39 rfl inT11 (by decide) w_1120 rfl dX11_addRule_134 ?_
    refine r_iconst (v := 1) (pc := 137) X dX11_addRule_137 (by decide) ?_
    refine r_isub (pc := 138) X dX11_addRule_138 ?_
    exact e_iret (pc := 139) X hr hf (Nat.le_refl _) (Nat.le_refl _) dX11_addRule_139
set_option maxHeartbeats 1000000 in
theorem c_f_M_addRule_b32 {F : Nat} {Γ : Ga} {D : DD} {B : Nat} {r : Int32} {s' : St} (X : Cx Γ RX11 cX11_addRule 6 D B { frames := 6, cells := 0, slots := 0, locals := 130 }) (hr : (Gme Γ).sig.returnType = (some .int)) {s : St} {l1 : Int32} {l2 : Int32} {l3 : Int32} {l4 : Int32} {t0 : Int32} (hf : f_M_addRule_b32 F s l1 l2 l3 l4 t0 = some (r, s')) : V Γ D B true 6 (QM Γ D B true s' (some (.int r)) 0 0) 0 0 s 32 [(0, .ref (B + 39)), (1, .int l1), (2, .int l2), (3, .int l3), (4, .int l4)] [.int t0] := by
  unfold f_M_addRule_b32 at hf
  refine r_istore (pc := 32) (lv' := [(0, .ref (B + 39)), (1, .int l1), (2, .int l2), (3, .int l3), (4, .int l4), (5, .int t0)]) X dX11_addRule_32 (by decide) [1, 2, 3, 4, 5, 0] rfl ?_
  refine r_aload_n (x := some 39) (pc := 34) X dX11_addRule_34 0 rfl ?_
  refine r_aload_n (x := some 39) (pc := 35) X dX11_addRule_35 0 rfl ?_
  refine r_iload_n (pc := 36) X dX11_addRule_36 1 rfl ?_
  refine bnd hf (fun x3 h3 hf => ?_)
  refine r_callVi (As := [.int l1]) (st := [.ref (B + 39)]) (pc := 37) X (c_f_M_isPerson h3) rfl w_1456 w_1458 w_69 w_84 w_1459 hdV_X11_isPerson (Rc.s rfl ce_39) (by decide) (by decide) (by decide) (Nat.le_of_ble_eq_true rfl) dX11_addRule_37 rfl ?_
  refine b_if_ne (tgt := 47) (pc := 40) X dX11_addRule_40 (by decide) hf (fun hf => ?_) (fun hf => ?_)
  · refine r_iconst (v := 1) (pc := 43) X dX11_addRule_43 (by decide) ?_
    refine r_goto (tgt := 75) (pc := 44) X dX11_addRule_44 (by decide) ?_
    refine r_forget (lv' := [(0, .ref (B + 39)), (1, .int l1), (2, .int l2), (3, .int l3)]) [0, 1, 2, 3] rfl ?_
    exact c_f_M_addRule_b75 X hr hf
  · refine r_iload (pc := 47) X dX11_addRule_47 5 rfl ?_
    refine b_if_ne (tgt := 56) (pc := 49) X dX11_addRule_49 (by decide) hf (fun hf => ?_) (fun hf => ?_)
    · refine r_iconst (v := 2) (pc := 52) X dX11_addRule_52 (by decide) ?_
      refine r_goto (tgt := 75) (pc := 53) X dX11_addRule_53 (by decide) ?_
      refine r_forget (lv' := [(0, .ref (B + 39)), (1, .int l1), (2, .int l2), (3, .int l3)]) [0, 1, 2, 3] rfl ?_
      exact c_f_M_addRule_b75 X hr hf
    · refine r_iload (pc := 56) X dX11_addRule_56 4 rfl ?_
      refine r_iconst (v := -1) (pc := 58) X dX11_addRule_58 (by decide) ?_
      refine b_icmp_ne (tgt := 70) (pc := 59) X dX11_addRule_59 (by decide) hf (fun hf => ?_) (fun hf => ?_)
      · refine r_aload_n (x := some 39) (pc := 62) X dX11_addRule_62 0 rfl ?_
        refine r_get (j := 40) (pc := 63) X ce_39 rfl inT11 (by decide) w_1120 rfl dX11_addRule_63 ?_
        refine r_iconst (v := 4) (pc := 66) X dX11_addRule_66 (by decide) ?_
        refine b_icmp_ne (tgt := 74) (pc := 67) X dX11_addRule_67 (by decide) hf (fun hf => ?_) (fun hf => ?_)
        · refine r_iconst (v := 3) (pc := 70) X dX11_addRule_70 (by decide) ?_
          refine r_goto (tgt := 75) (pc := 71) X dX11_addRule_71 (by decide) ?_
          refine r_forget (lv' := [(0, .ref (B + 39)), (1, .int l1), (2, .int l2), (3, .int l3)]) [0, 1, 2, 3] rfl ?_
          exact c_f_M_addRule_b75 X hr hf
        · refine r_iconst (v := 0) (pc := 74) X dX11_addRule_74 (by decide) ?_
          refine r_forget (lv' := [(0, .ref (B + 39)), (1, .int l1), (2, .int l2), (3, .int l3)]) [0, 1, 2, 3] rfl ?_
          exact c_f_M_addRule_b75 X hr hf
      · refine r_iconst (v := 3) (pc := 70) X dX11_addRule_70 (by decide) ?_
        refine r_goto (tgt := 75) (pc := 71) X dX11_addRule_71 (by decide) ?_
        refine r_forget (lv' := [(0, .ref (B + 39)), (1, .int l1), (2, .int l2), (3, .int l3)]) [0, 1, 2, 3] rfl ?_
        exact c_f_M_addRule_b75 X hr hf
set_option maxHeartbeats 1000000 in
theorem c_f_M_addRule {F : Nat} {s : St} {p1 : Int32} {p2 : Int32} {p3 : Int32} {r : Int32} {s' : St} (hf : f_M_addRule F s p1 p2 p3 = some (r, s')) : CC true yX11_addRule (Cond.code yX11_addRule cX11_addRule 6 (some .int)) 6 130 (fun B => [.ref (B + 39), .int p1, .int p2, .int p3]) s (fun B => (some (.int r))) s' 0 0 := by
  refine CC.of (fun B => [(0, .ref (B + 39)), (1, .int p1), (2, .int p2), (3, .int p3)]) (by decide +kernel) (fun _ => rfl) (fun _ => (by simp [lg_sl, rfB_cat, catI, catL, catR])) (fun Γ D B X hr hin => ?_)
  have X : Cx Γ RX11 cX11_addRule 6 D B { frames := 6, cells := 0, slots := 0, locals := 130 } := X
  unfold f_M_addRule at hf
  refine r_aload_n (x := some 39) (pc := 0) X dX11_addRule_0 0 rfl ?_
  refine r_iconst (v := 4) (pc := 1) X dX11_addRule_1 (by decide) ?_
  refine bnd hf (fun x1 h1 hf => ?_)
  refine r_callVi (As := [.int 4]) (st := []) (pc := 2) X (c_f_M_turns h1) rfl w_1272 w_1274 w_36 w_84 w_1275 hdV_X11_turns (Rc.s rfl ce_39) (by decide) (by decide) (by decide) (Nat.le_of_ble_eq_true rfl) dX11_addRule_2 rfl ?_
  refine r_istore (pc := 5) (lv' := [(0, .ref (B + 39)), (1, .int p1), (2, .int p2), (3, .int p3), (4, .int x1.1)]) X dX11_addRule_5 (by decide) [1, 2, 3, 4, 0] rfl ?_
  refine r_iload_n (pc := 7) X dX11_addRule_7 2 rfl ?_
  refine r_iconst (v := 1) (pc := 8) X dX11_addRule_8 (by decide) ?_
  refine r_bipush (v := 72) (pc := 9) X dX11_addRule_9 (by decide) ?_
  refine bnd hf (fun x2 h2 hf => ?_)
  refine r_callSi (As := [.int p2, .int 1, .int 72]) (st := []) (pc := 11) X (c_f_M_isIn h2) rfl w_1257 w_1258 w_84 w_1259 hdS_X11_isIn (by decide) (by decide) (by decide) (Nat.le_of_ble_eq_true rfl) dX11_addRule_11 rfl ?_
  refine b_if_eq (tgt := 31) (pc := 14) X dX11_addRule_14 (by decide) hf (fun hf => ?_) (fun hf => ?_)
  · refine r_iconst (v := 0) (pc := 31) X dX11_addRule_31 (by decide) ?_
    exact c_f_M_addRule_b32 X hr hf
  · refine r_iload_n (pc := 17) X dX11_addRule_17 3 rfl ?_
    refine r_iconst (v := 0) (pc := 18) X dX11_addRule_18 (by decide) ?_
    refine r_bipush (v := 72) (pc := 19) X dX11_addRule_19 (by decide) ?_
    refine bnd hf (fun x13 h13 hf => ?_)
    refine r_callSi (As := [.int p3, .int 0, .int 72]) (st := []) (pc := 21) X (c_f_M_isIn h13) rfl w_1257 w_1258 w_84 w_1259 hdS_X11_isIn (by decide) (by decide) (by decide) (Nat.le_of_ble_eq_true rfl) dX11_addRule_21 rfl ?_
    refine b_if_eq (tgt := 31) (pc := 24) X dX11_addRule_24 (by decide) hf (fun hf => ?_) (fun hf => ?_)
    · refine r_iconst (v := 0) (pc := 31) X dX11_addRule_31 (by decide) ?_
      exact c_f_M_addRule_b32 X hr hf
    · refine r_iconst (v := 1) (pc := 27) X dX11_addRule_27 (by decide) ?_
      refine r_goto (tgt := 32) (pc := 28) X dX11_addRule_28 (by decide) ?_
      exact c_f_M_addRule_b32 X hr hf
/-! f_M_drop -/
theorem dX11_drop_0 : decode cX11_drop 0 = .ok (.aload_n 0, 1) := by decide +kernel
theorem dX11_drop_1 : decode cX11_drop 1 = .ok (.aload_n 0, 1) := by decide +kernel
theorem dX11_drop_2 : decode cX11_drop 2 = .ok (.iload_n 1, 1) := by decide +kernel
theorem dX11_drop_3 : decode cX11_drop 3 = .ok (.invokevirtual 330, 3) := by decide +kernel
theorem dX11_drop_6 : decode cX11_drop 6 = .ok (.ifCond .ne 7, 3) := by decide +kernel
theorem dX11_drop_9 : decode cX11_drop 9 = .ok (.iconst 1, 1) := by decide +kernel
theorem dX11_drop_10 : decode cX11_drop 10 = .ok (.goto 17, 3) := by decide +kernel
theorem dX11_drop_13 : decode cX11_drop 13 = .ok (.aload_n 0, 1) := by decide +kernel
theorem dX11_drop_14 : decode cX11_drop 14 = .ok (.getfield 78, 3) := by decide +kernel
theorem dX11_drop_17 : decode cX11_drop 17 = .ok (.iload_n 1, 1) := by decide +kernel
theorem dX11_drop_18 : decode cX11_drop 18 = .ok (.baload, 1) := by decide +kernel
theorem dX11_drop_19 : decode cX11_drop 19 = .ok (.ifCond .eq 7, 3) := by decide +kernel
theorem dX11_drop_22 : decode cX11_drop 22 = .ok (.iconst 2, 1) := by decide +kernel
theorem dX11_drop_23 : decode cX11_drop 23 = .ok (.goto 4, 3) := by decide +kernel
theorem dX11_drop_26 : decode cX11_drop 26 = .ok (.iconst 0, 1) := by decide +kernel
theorem dX11_drop_27 : decode cX11_drop 27 = .ok (.invokevirtual 263, 3) := by decide +kernel
theorem dX11_drop_30 : decode cX11_drop 30 = .ok (.ifCond .ne 5, 3) := by decide +kernel
theorem dX11_drop_33 : decode cX11_drop 33 = .ok (.iconst 0, 1) := by decide +kernel
theorem dX11_drop_34 : decode cX11_drop 34 = .ok (.ireturn, 1) := by decide +kernel
theorem dX11_drop_35 : decode cX11_drop 35 = .ok (.aload_n 0, 1) := by decide +kernel
theorem dX11_drop_36 : decode cX11_drop 36 = .ok (.getfield 78, 3) := by decide +kernel
theorem dX11_drop_39 : decode cX11_drop 39 = .ok (.iload_n 1, 1) := by decide +kernel
theorem dX11_drop_40 : decode cX11_drop 40 = .ok (.iconst 1, 1) := by decide +kernel
theorem dX11_drop_41 : decode cX11_drop 41 = .ok (.bastore, 1) := by decide +kernel
theorem dX11_drop_42 : decode cX11_drop 42 = .ok (.aload_n 0, 1) := by decide +kernel
theorem dX11_drop_43 : decode cX11_drop 43 = .ok (.getfield 84, 3) := by decide +kernel
theorem dX11_drop_46 : decode cX11_drop 46 = .ok (.iload_n 1, 1) := by decide +kernel
theorem dX11_drop_47 : decode cX11_drop 47 = .ok (.iaload, 1) := by decide +kernel
theorem dX11_drop_48 : decode cX11_drop 48 = .ok (.ireturn, 1) := by decide +kernel
def f_M_drop (F : Nat) (s : St) (p1 : Int32) : Option (Int32 × St) :=
  (f_M_isRule F s p1).bind fun x1 => (if x1.1 = 0 then
    ((f_M_goes F x1.2 1).bind fun x2 => (if x2.1 = 0 then
      (some (0, x2.2))
    else
      ((ix 4 p1).bind fun j3 => (lt (sA x2.2 62 j3 1) fun s4 => ((ix 4 p1).bind fun j5 => (some ((gA s4 64 j5), s4)))))))
  else
    ((ix 4 p1).bind fun j6 => (if (gA x1.2 62 j6) = 0 then
      ((f_M_goes F x1.2 0).bind fun x7 => (if x7.1 = 0 then
        (some (0, x7.2))
      else
        ((ix 4 p1).bind fun j8 => (lt (sA x7.2 62 j8 1) fun s9 => ((ix 4 p1).bind fun j10 => (some ((gA s9 64 j10), s9)))))))
    else
      ((f_M_goes F x1.2 2).bind fun x11 => (if x11.1 = 0 then
        (some (0, x11.2))
      else
        ((ix 4 p1).bind fun j12 => (lt (sA x11.2 62 j12 1) fun s13 => ((ix 4 p1).bind fun j14 => (some ((gA s13 64 j14), s13))))))))))
set_option maxHeartbeats 1000000 in
theorem c_f_M_drop {F : Nat} {s : St} {p1 : Int32} {r : Int32} {s' : St} (hf : f_M_drop F s p1 = some (r, s')) : CC true yX11_drop (Cond.code yX11_drop cX11_drop 2 (some .int)) 2 43 (fun B => [.ref (B + 39), .int p1]) s (fun B => (some (.int r))) s' 0 0 := by
  refine CC.of (fun B => [(0, .ref (B + 39)), (1, .int p1)]) (by decide +kernel) (fun _ => rfl) (fun _ => (by simp [lg_sl, rfB_cat, catI, catL, catR])) (fun Γ D B X hr hin => ?_)
  have X : Cx Γ RX11 cX11_drop 2 D B { frames := 2, cells := 0, slots := 0, locals := 43 } := X
  unfold f_M_drop at hf
  refine r_aload_n (x := some 39) (pc := 0) X dX11_drop_0 0 rfl ?_
  refine r_aload_n (x := some 39) (pc := 1) X dX11_drop_1 0 rfl ?_
  refine r_iload_n (pc := 2) X dX11_drop_2 1 rfl ?_
  refine bnd hf (fun x1 h1 hf => ?_)
  refine r_callVi (As := [.int p1]) (st := [.ref (B + 39)]) (pc := 3) X (c_f_M_isRule h1) rfl w_1496 w_1498 w_71 w_84 w_1499 hdV_X11_isRule (Rc.s rfl ce_39) (by decide) (by decide) (by decide) (Nat.le_of_ble_eq_true rfl) dX11_drop_3 rfl ?_
  refine b_if_ne (tgt := 13) (pc := 6) X dX11_drop_6 (by decide) hf (fun hf => ?_) (fun hf => ?_)
  · refine r_iconst (v := 1) (pc := 9) X dX11_drop_9 (by decide) ?_
    refine r_goto (tgt := 27) (pc := 10) X dX11_drop_10 (by decide) ?_
    refine bnd hf (fun x2 h2 hf => ?_)
    refine r_callVi (As := [.int 1]) (st := []) (pc := 27) X (c_f_M_goes h2) rfl w_1260 w_1262 w_35 w_84 w_1263 hdV_X11_goes (Rc.s rfl ce_39) (by decide) (by decide) (by decide) (Nat.le_of_ble_eq_true rfl) dX11_drop_27 rfl ?_
    refine b_if_ne (tgt := 35) (pc := 30) X dX11_drop_30 (by decide) hf (fun hf => ?_) (fun hf => ?_)
    · refine r_iconst (v := 0) (pc := 33) X dX11_drop_33 (by decide) ?_
      exact e_iret (pc := 34) X hr hf (Nat.le_refl _) (Nat.le_refl _) dX11_drop_34
    · refine r_aload_n (x := some 39) (pc := 35) X dX11_drop_35 0 rfl ?_
      refine r_get (j := 44) (pc := 36) X ce_39 rfl inT11 (by decide) w_1124 rfl dX11_drop_36 ?_
      refine r_iload_n (pc := 39) X dX11_drop_39 1 rfl ?_
      refine r_iconst (v := 1) (pc := 40) X dX11_drop_40 (by decide) ?_
      refine b_zast (pc := 41) X ce_62 (fun _ => ca_62 _ _) dX11_drop_41 hf (by decide) (fun j3 s4 hf => ?_)
      refine r_aload_n (x := some 39) (pc := 42) X dX11_drop_42 0 rfl ?_
      refine r_get (j := 46) (pc := 43) X ce_39 rfl inT11 (by decide) w_1126 rfl dX11_drop_43 ?_
      refine r_iload_n (pc := 46) X dX11_drop_46 1 rfl ?_
      refine b_iald (pc := 47) X ce_64 dX11_drop_47 hf (fun j5 hf => ?_)
      exact e_iret (pc := 48) X hr hf (Nat.le_refl _) (Nat.le_refl _) dX11_drop_48
  · refine r_aload_n (x := some 39) (pc := 13) X dX11_drop_13 0 rfl ?_
    refine r_get (j := 44) (pc := 14) X ce_39 rfl inT11 (by decide) w_1124 rfl dX11_drop_14 ?_
    refine r_iload_n (pc := 17) X dX11_drop_17 1 rfl ?_
    refine b_zald (pc := 18) X ce_62 dX11_drop_18 hf (fun j6 hf => ?_)
    refine b_if_eq (tgt := 26) (pc := 19) X dX11_drop_19 (by decide) hf (fun hf => ?_) (fun hf => ?_)
    · refine r_iconst (v := 0) (pc := 26) X dX11_drop_26 (by decide) ?_
      refine bnd hf (fun x7 h7 hf => ?_)
      refine r_callVi (As := [.int 0]) (st := []) (pc := 27) X (c_f_M_goes h7) rfl w_1260 w_1262 w_35 w_84 w_1263 hdV_X11_goes (Rc.s rfl ce_39) (by decide) (by decide) (by decide) (Nat.le_of_ble_eq_true rfl) dX11_drop_27 rfl ?_
      refine b_if_ne (tgt := 35) (pc := 30) X dX11_drop_30 (by decide) hf (fun hf => ?_) (fun hf => ?_)
      · refine r_iconst (v := 0) (pc := 33) X dX11_drop_33 (by decide) ?_
        exact e_iret (pc := 34) X hr hf (Nat.le_refl _) (Nat.le_refl _) dX11_drop_34
      · refine r_aload_n (x := some 39) (pc := 35) X dX11_drop_35 0 rfl ?_
        refine r_get (j := 44) (pc := 36) X ce_39 rfl inT11 (by decide) w_1124 rfl dX11_drop_36 ?_
        refine r_iload_n (pc := 39) X dX11_drop_39 1 rfl ?_
        refine r_iconst (v := 1) (pc := 40) X dX11_drop_40 (by decide) ?_
        refine b_zast (pc := 41) X ce_62 (fun _ => ca_62 _ _) dX11_drop_41 hf (by decide) (fun j8 s9 hf => ?_)
        refine r_aload_n (x := some 39) (pc := 42) X dX11_drop_42 0 rfl ?_
        refine r_get (j := 46) (pc := 43) X ce_39 rfl inT11 (by decide) w_1126 rfl dX11_drop_43 ?_
        refine r_iload_n (pc := 46) X dX11_drop_46 1 rfl ?_
        refine b_iald (pc := 47) X ce_64 dX11_drop_47 hf (fun j10 hf => ?_)
        exact e_iret (pc := 48) X hr hf (Nat.le_refl _) (Nat.le_refl _) dX11_drop_48
    · refine r_iconst (v := 2) (pc := 22) X dX11_drop_22 (by decide) ?_
      refine r_goto (tgt := 27) (pc := 23) X dX11_drop_23 (by decide) ?_
      refine bnd hf (fun x11 h11 hf => ?_)
      refine r_callVi (As := [.int 2]) (st := []) (pc := 27) X (c_f_M_goes h11) rfl w_1260 w_1262 w_35 w_84 w_1263 hdV_X11_goes (Rc.s rfl ce_39) (by decide) (by decide) (by decide) (Nat.le_of_ble_eq_true rfl) dX11_drop_27 rfl ?_
      refine b_if_ne (tgt := 35) (pc := 30) X dX11_drop_30 (by decide) hf (fun hf => ?_) (fun hf => ?_)
      · refine r_iconst (v := 0) (pc := 33) X dX11_drop_33 (by decide) ?_
        exact e_iret (pc := 34) X hr hf (Nat.le_refl _) (Nat.le_refl _) dX11_drop_34
      · refine r_aload_n (x := some 39) (pc := 35) X dX11_drop_35 0 rfl ?_
        refine r_get (j := 44) (pc := 36) X ce_39 rfl inT11 (by decide) w_1124 rfl dX11_drop_36 ?_
        refine r_iload_n (pc := 39) X dX11_drop_39 1 rfl ?_
        refine r_iconst (v := 1) (pc := 40) X dX11_drop_40 (by decide) ?_
        refine b_zast (pc := 41) X ce_62 (fun _ => ca_62 _ _) dX11_drop_41 hf (by decide) (fun j12 s13 hf => ?_)
        refine r_aload_n (x := some 39) (pc := 42) X dX11_drop_42 0 rfl ?_
        refine r_get (j := 46) (pc := 43) X ce_39 rfl inT11 (by decide) w_1126 rfl dX11_drop_43 ?_
        refine r_iload_n (pc := 46) X dX11_drop_46 1 rfl ?_
        refine b_iald (pc := 47) X ce_64 dX11_drop_47 hf (fun j14 hf => ?_)
        exact e_iret (pc := 48) X hr hf (Nat.le_refl _) (Nat.le_refl _) dX11_drop_48
/-! f_M_silence -/
theorem dX11_silence_0 : decode cX11_silence 0 = .ok (.iload_n 2, 1) := by decide +kernel
theorem dX11_silence_1 : decode cX11_silence 1 = .ok (.aload_n 0, 1) := by decide +kernel
theorem dX11_silence_2 : decode cX11_silence 2 = .ok (.getfield 269, 3) := by decide +kernel
theorem dX11_silence_5 : decode cX11_silence 5 = .ok (.iconst 1, 1) := by decide +kernel
theorem dX11_silence_6 : decode cX11_silence 6 = .ok (.iadd, 1) := by decide +kernel
theorem dX11_silence_7 : decode cX11_silence 7 = .ok (.sipush 1000, 3) := by decide +kernel
theorem dX11_silence_10 : decode cX11_silence 10 = .ok (.invokestatic 109, 3) := by decide +kernel
theorem dX11_silence_13 : decode cX11_silence 13 = .ok (.ifCond .eq 18, 3) := by decide +kernel
theorem dX11_silence_16 : decode cX11_silence 16 = .ok (.iload_n 3, 1) := by decide +kernel
theorem dX11_silence_17 : decode cX11_silence 17 = .ok (.iload_n 2, 1) := by decide +kernel
theorem dX11_silence_18 : decode cX11_silence 18 = .ok (.sipush 1000, 3) := by decide +kernel
theorem dX11_silence_21 : decode cX11_silence 21 = .ok (.invokestatic 109, 3) := by decide +kernel
theorem dX11_silence_24 : decode cX11_silence 24 = .ok (.ifCond .eq 7, 3) := by decide +kernel
theorem dX11_silence_27 : decode cX11_silence 27 = .ok (.iconst 1, 1) := by decide +kernel
theorem dX11_silence_28 : decode cX11_silence 28 = .ok (.goto 4, 3) := by decide +kernel
theorem dX11_silence_31 : decode cX11_silence 31 = .ok (.iconst 0, 1) := by decide +kernel
theorem dX11_silence_32 : decode cX11_silence 32 = .ok (.istore 4, 2) := by decide +kernel
theorem dX11_silence_34 : decode cX11_silence 34 = .ok (.aload_n 0, 1) := by decide +kernel
theorem dX11_silence_35 : decode cX11_silence 35 = .ok (.aload_n 0, 1) := by decide +kernel
theorem dX11_silence_36 : decode cX11_silence 36 = .ok (.iload_n 1, 1) := by decide +kernel
theorem dX11_silence_37 : decode cX11_silence 37 = .ok (.invokevirtual 330, 3) := by decide +kernel
theorem dX11_silence_40 : decode cX11_silence 40 = .ok (.ifCond .ne 7, 3) := by decide +kernel
theorem dX11_silence_43 : decode cX11_silence 43 = .ok (.iconst 1, 1) := by decide +kernel
theorem dX11_silence_44 : decode cX11_silence 44 = .ok (.goto 27, 3) := by decide +kernel
theorem dX11_silence_47 : decode cX11_silence 47 = .ok (.iload 4, 2) := by decide +kernel
theorem dX11_silence_49 : decode cX11_silence 49 = .ok (.ifCond .ne 7, 3) := by decide +kernel
theorem dX11_silence_52 : decode cX11_silence 52 = .ok (.iconst 2, 1) := by decide +kernel
theorem dX11_silence_53 : decode cX11_silence 53 = .ok (.goto 18, 3) := by decide +kernel
theorem dX11_silence_56 : decode cX11_silence 56 = .ok (.aload_n 0, 1) := by decide +kernel
theorem dX11_silence_57 : decode cX11_silence 57 = .ok (.getfield 87, 3) := by decide +kernel
theorem dX11_silence_60 : decode cX11_silence 60 = .ok (.iload_n 1, 1) := by decide +kernel
theorem dX11_silence_61 : decode cX11_silence 61 = .ok (.iaload, 1) := by decide +kernel
theorem dX11_silence_62 : decode cX11_silence 62 = .ok (.iconst 5, 1) := by decide +kernel
theorem dX11_silence_63 : decode cX11_silence 63 = .ok (.if_icmp .ne 7, 3) := by decide +kernel
theorem dX11_silence_66 : decode cX11_silence 66 = .ok (.iconst 3, 1) := by decide +kernel
theorem dX11_silence_67 : decode cX11_silence 67 = .ok (.goto 4, 3) := by decide +kernel
theorem dX11_silence_70 : decode cX11_silence 70 = .ok (.iconst 0, 1) := by decide +kernel
theorem dX11_silence_71 : decode cX11_silence 71 = .ok (.invokevirtual 263, 3) := by decide +kernel
theorem dX11_silence_74 : decode cX11_silence 74 = .ok (.ifCond .ne 5, 3) := by decide +kernel
theorem dX11_silence_77 : decode cX11_silence 77 = .ok (.iconst 0, 1) := by decide +kernel
theorem dX11_silence_78 : decode cX11_silence 78 = .ok (.ireturn, 1) := by decide +kernel
theorem dX11_silence_79 : decode cX11_silence 79 = .ok (.aload_n 0, 1) := by decide +kernel
theorem dX11_silence_80 : decode cX11_silence 80 = .ok (.getfield 90, 3) := by decide +kernel
theorem dX11_silence_83 : decode cX11_silence 83 = .ok (.iconst 5, 1) := by decide +kernel
theorem dX11_silence_84 : decode cX11_silence 84 = .ok (.iload_n 1, 1) := by decide +kernel
theorem dX11_silence_85 : decode cX11_silence 85 = .ok (.imul, 1) := by decide +kernel
theorem dX11_silence_86 : decode cX11_silence 86 = .ok (.aload_n 0, 1) := by decide +kernel
theorem dX11_silence_87 : decode cX11_silence 87 = .ok (.getfield 87, 3) := by decide +kernel
theorem dX11_silence_90 : decode cX11_silence 90 = .ok (.iload_n 1, 1) := by decide +kernel
theorem dX11_silence_91 : decode cX11_silence 91 = .ok (.iaload, 1) := by decide +kernel
theorem dX11_silence_92 : decode cX11_silence 92 = .ok (.iadd, 1) := by decide +kernel
theorem dX11_silence_93 : decode cX11_silence 93 = .ok (.iload_n 2, 1) := by decide +kernel
theorem dX11_silence_94 : decode cX11_silence 94 = .ok (.iastore, 1) := by decide +kernel
theorem dX11_silence_95 : decode cX11_silence 95 = .ok (.aload_n 0, 1) := by decide +kernel
theorem dX11_silence_96 : decode cX11_silence 96 = .ok (.getfield 93, 3) := by decide +kernel
theorem dX11_silence_99 : decode cX11_silence 99 = .ok (.iconst 5, 1) := by decide +kernel
theorem dX11_silence_100 : decode cX11_silence 100 = .ok (.iload_n 1, 1) := by decide +kernel
theorem dX11_silence_101 : decode cX11_silence 101 = .ok (.imul, 1) := by decide +kernel
theorem dX11_silence_102 : decode cX11_silence 102 = .ok (.aload_n 0, 1) := by decide +kernel
theorem dX11_silence_103 : decode cX11_silence 103 = .ok (.getfield 87, 3) := by decide +kernel
theorem dX11_silence_106 : decode cX11_silence 106 = .ok (.iload_n 1, 1) := by decide +kernel
theorem dX11_silence_107 : decode cX11_silence 107 = .ok (.iaload, 1) := by decide +kernel
theorem dX11_silence_108 : decode cX11_silence 108 = .ok (.iadd, 1) := by decide +kernel
theorem dX11_silence_109 : decode cX11_silence 109 = .ok (.iload_n 3, 1) := by decide +kernel
theorem dX11_silence_110 : decode cX11_silence 110 = .ok (.iastore, 1) := by decide +kernel
theorem dX11_silence_111 : decode cX11_silence 111 = .ok (.aload_n 0, 1) := by decide +kernel
theorem dX11_silence_112 : decode cX11_silence 112 = .ok (.getfield 87, 3) := by decide +kernel
theorem dX11_silence_115 : decode cX11_silence 115 = .ok (.iload_n 1, 1) := by decide +kernel
theorem dX11_silence_116 : decode cX11_silence 116 = .ok (.dup2, 1) := by decide +kernel
theorem dX11_silence_117 : decode cX11_silence 117 = .ok (.iaload, 1) := by decide +kernel
theorem dX11_silence_118 : decode cX11_silence 118 = .ok (.iconst 1, 1) := by decide +kernel
theorem dX11_silence_119 : decode cX11_silence 119 = .ok (.iadd, 1) := by decide +kernel
theorem dX11_silence_120 : decode cX11_silence 120 = .ok (.iastore, 1) := by decide +kernel
theorem dX11_silence_121 : decode cX11_silence 121 = .ok (.aload_n 0, 1) := by decide +kernel
theorem dX11_silence_122 : decode cX11_silence 122 = .ok (.getfield 87, 3) := by decide +kernel
theorem dX11_silence_125 : decode cX11_silence 125 = .ok (.iload_n 1, 1) := by decide +kernel
theorem dX11_silence_126 : decode cX11_silence 126 = .ok (.iaload, 1) := by decide +kernel
theorem dX11_silence_127 : decode cX11_silence 127 = .ok (.ireturn, 1) := by decide +kernel
def f_M_silence_b71 (F : Nat) (s : St) (l1 : Int32) (l2 : Int32) (l3 : Int32) (t1 : Int32) : Option (Int32 × St) :=
  (f_M_goes F s t1).bind fun x3 => (if x3.1 = 0 then
    (some (0, x3.2))
  else
    ((ix 4 l1).bind fun j4 => ((ix 20 (((5 : Int32) * l1) + (gA x3.2 65 j4))).bind fun j5 => (lt (sA x3.2 66 j5 l2) fun s6 => ((ix 4 l1).bind fun j7 => ((ix 20 (((5 : Int32) * l1) + (gA s6 65 j7))).bind fun j8 => (lt (sA s6 67 j8 l3) fun s9 => ((ix 4 l1).bind fun j10 => ((ix 4 l1).bind fun j11 => (lt (sA s9 65 j11 ((gA s9 65 j10) + 1)) fun s12 => ((ix 4 l1).bind fun j13 => (some ((gA s12 65 j13), s12)))))))))))))
def f_M_silence_b32 (F : Nat) (s : St) (l1 : Int32) (l2 : Int32) (l3 : Int32) (t0 : Int32) : Option (Int32 × St) :=
  (f_M_isRule F s l1).bind fun x2 => (if x2.1 = 0 then
    (f_M_silence_b71 F x2.2 l1 l2 l3 1)
  else
    (if t0 = 0 then
      (f_M_silence_b71 F x2.2 l1 l2 l3 2)
    else
      ((ix 4 l1).bind fun j14 => (if (gA x2.2 65 j14) = 5 then
        (f_M_silence_b71 F x2.2 l1 l2 l3 3)
      else
        (f_M_silence_b71 F x2.2 l1 l2 l3 0)))))
def f_M_silence (F : Nat) (s : St) (p1 : Int32) (p2 : Int32) (p3 : Int32) : Option (Int32 × St) :=
  (f_M_isIn F s p2 ((gI s 2526) + 1) 1000).bind fun x1 => (if x1.1 = 0 then
    (f_M_silence_b32 F x1.2 p1 p2 p3 0)
  else
    ((f_M_isIn F x1.2 p3 p2 1000).bind fun x15 => (if x15.1 = 0 then
      (f_M_silence_b32 F x15.2 p1 p2 p3 0)
    else
      (f_M_silence_b32 F x15.2 p1 p2 p3 1))))
set_option maxHeartbeats 1000000 in
theorem c_f_M_silence_b71 {F : Nat} {Γ : Ga} {D : DD} {B : Nat} {r : Int32} {s' : St} (X : Cx Γ RX11 cX11_silence 5 D B { frames := 2, cells := 0, slots := 0, locals := 43 }) (hr : (Gme Γ).sig.returnType = (some .int)) {s : St} {l1 : Int32} {l2 : Int32} {l3 : Int32} {t1 : Int32} (hf : f_M_silence_b71 F s l1 l2 l3 t1 = some (r, s')) : V Γ D B true 5 (QM Γ D B true s' (some (.int r)) 0 0) 0 0 s 71 [(0, .ref (B + 39)), (1, .int l1), (2, .int l2), (3, .int l3)] [.int t1, .ref (B + 39)] := by
  unfold f_M_silence_b71 at hf
  refine bnd hf (fun x3 h3 hf => ?_)
  refine r_callVi (As := [.int t1]) (st := []) (pc := 71) X (c_f_M_goes h3) rfl w_1260 w_1262 w_35 w_84 w_1263 hdV_X11_goes (Rc.s rfl ce_39) (by decide) (by decide) (by decide) (Nat.le_of_ble_eq_true rfl) dX11_silence_71 rfl ?_
  refine b_if_ne (tgt := 79) (pc := 74) X dX11_silence_74 (by decide) hf (fun hf => ?_) (fun hf => ?_)
  · refine r_iconst (v := 0) (pc := 77) X dX11_silence_77 (by decide) ?_
    exact e_iret (pc := 78) X hr hf (Nat.le_refl _) (Nat.le_refl _) dX11_silence_78
  · refine r_aload_n (x := some 39) (pc := 79) X dX11_silence_79 0 rfl ?_
    refine r_get (j := 48) (pc := 80) X ce_39 rfl inT11 (by decide) w_1128 rfl dX11_silence_80 ?_
    refine r_iconst (v := 5) (pc := 83) X dX11_silence_83 (by decide) ?_
    refine r_iload_n (pc := 84) X dX11_silence_84 1 rfl ?_
    refine r_imul (pc := 85) X dX11_silence_85 ?_
    refine r_aload_n (x := some 39) (pc := 86) X dX11_silence_86 0 rfl ?_
    refine r_get (j := 47) (pc := 87) X ce_39 rfl inT11 (by decide) w_1127 rfl dX11_silence_87 ?_
    refine r_iload_n (pc := 90) X dX11_silence_90 1 rfl ?_
    refine b_iald (pc := 91) X ce_65 dX11_silence_91 hf (fun j4 hf => ?_)
    refine r_iadd (pc := 92) X dX11_silence_92 ?_
    refine r_iload_n (pc := 93) X dX11_silence_93 2 rfl ?_
    refine b_iast (pc := 94) X ce_66 (fun _ => ca_66 _ _) dX11_silence_94 hf (fun j5 s6 hf => ?_)
    refine r_aload_n (x := some 39) (pc := 95) X dX11_silence_95 0 rfl ?_
    refine r_get (j := 49) (pc := 96) X ce_39 rfl inT11 (by decide) w_1129 rfl dX11_silence_96 ?_
    refine r_iconst (v := 5) (pc := 99) X dX11_silence_99 (by decide) ?_
    refine r_iload_n (pc := 100) X dX11_silence_100 1 rfl ?_
    refine r_imul (pc := 101) X dX11_silence_101 ?_
    refine r_aload_n (x := some 39) (pc := 102) X dX11_silence_102 0 rfl ?_
    refine r_get (j := 47) (pc := 103) X ce_39 rfl inT11 (by decide) w_1127 rfl dX11_silence_103 ?_
    refine r_iload_n (pc := 106) X dX11_silence_106 1 rfl ?_
    refine b_iald (pc := 107) X ce_65 dX11_silence_107 hf (fun j7 hf => ?_)
    refine r_iadd (pc := 108) X dX11_silence_108 ?_
    refine r_iload_n (pc := 109) X dX11_silence_109 3 rfl ?_
    refine b_iast (pc := 110) X ce_67 (fun _ => ca_67 _ _) dX11_silence_110 hf (fun j8 s9 hf => ?_)
    refine r_aload_n (x := some 39) (pc := 111) X dX11_silence_111 0 rfl ?_
    refine r_get (j := 47) (pc := 112) X ce_39 rfl inT11 (by decide) w_1127 rfl dX11_silence_112 ?_
    refine r_iload_n (pc := 115) X dX11_silence_115 1 rfl ?_
    refine r_dup2 (pc := 116) X dX11_silence_116 rfl rfl ?_
    refine b_iald (pc := 117) X ce_65 dX11_silence_117 hf (fun j10 hf => ?_)
    refine r_iconst (v := 1) (pc := 118) X dX11_silence_118 (by decide) ?_
    refine r_iadd (pc := 119) X dX11_silence_119 ?_
    refine b_iast (pc := 120) X ce_65 (fun _ => ca_65 _ _) dX11_silence_120 hf (fun j11 s12 hf => ?_)
    refine r_aload_n (x := some 39) (pc := 121) X dX11_silence_121 0 rfl ?_
    refine r_get (j := 47) (pc := 122) X ce_39 rfl inT11 (by decide) w_1127 rfl dX11_silence_122 ?_
    refine r_iload_n (pc := 125) X dX11_silence_125 1 rfl ?_
    refine b_iald (pc := 126) X ce_65 dX11_silence_126 hf (fun j13 hf => ?_)
    exact e_iret (pc := 127) X hr hf (Nat.le_refl _) (Nat.le_refl _) dX11_silence_127
set_option maxHeartbeats 1000000 in
theorem c_f_M_silence_b32 {F : Nat} {Γ : Ga} {D : DD} {B : Nat} {r : Int32} {s' : St} (X : Cx Γ RX11 cX11_silence 5 D B { frames := 2, cells := 0, slots := 0, locals := 43 }) (hr : (Gme Γ).sig.returnType = (some .int)) {s : St} {l1 : Int32} {l2 : Int32} {l3 : Int32} {t0 : Int32} (hf : f_M_silence_b32 F s l1 l2 l3 t0 = some (r, s')) : V Γ D B true 5 (QM Γ D B true s' (some (.int r)) 0 0) 0 0 s 32 [(0, .ref (B + 39)), (1, .int l1), (2, .int l2), (3, .int l3)] [.int t0] := by
  unfold f_M_silence_b32 at hf
  refine r_istore (pc := 32) (lv' := [(0, .ref (B + 39)), (1, .int l1), (2, .int l2), (3, .int l3), (4, .int t0)]) X dX11_silence_32 (by decide) [1, 2, 3, 4, 0] rfl ?_
  refine r_aload_n (x := some 39) (pc := 34) X dX11_silence_34 0 rfl ?_
  refine r_aload_n (x := some 39) (pc := 35) X dX11_silence_35 0 rfl ?_
  refine r_iload_n (pc := 36) X dX11_silence_36 1 rfl ?_
  refine bnd hf (fun x2 h2 hf => ?_)
  refine r_callVi (As := [.int l1]) (st := [.ref (B + 39)]) (pc := 37) X (c_f_M_isRule h2) rfl w_1496 w_1498 w_71 w_84 w_1499 hdV_X11_isRule (Rc.s rfl ce_39) (by decide) (by decide) (by decide) (Nat.le_of_ble_eq_true rfl) dX11_silence_37 rfl ?_
  refine b_if_ne (tgt := 47) (pc := 40) X dX11_silence_40 (by decide) hf (fun hf => ?_) (fun hf => ?_)
  · refine r_iconst (v := 1) (pc := 43) X dX11_silence_43 (by decide) ?_
    refine r_goto (tgt := 71) (pc := 44) X dX11_silence_44 (by decide) ?_
    refine r_forget (lv' := [(0, .ref (B + 39)), (1, .int l1), (2, .int l2), (3, .int l3)]) [0, 1, 2, 3] rfl ?_
    exact c_f_M_silence_b71 X hr hf
  · refine r_iload (pc := 47) X dX11_silence_47 4 rfl ?_
    refine b_if_ne (tgt := 56) (pc := 49) X dX11_silence_49 (by decide) hf (fun hf => ?_) (fun hf => ?_)
    · refine r_iconst (v := 2) (pc := 52) X dX11_silence_52 (by decide) ?_
      refine r_goto (tgt := 71) (pc := 53) X dX11_silence_53 (by decide) ?_
      refine r_forget (lv' := [(0, .ref (B + 39)), (1, .int l1), (2, .int l2), (3, .int l3)]) [0, 1, 2, 3] rfl ?_
      exact c_f_M_silence_b71 X hr hf
    · refine r_aload_n (x := some 39) (pc := 56) X dX11_silence_56 0 rfl ?_
      refine r_get (j := 47) (pc := 57) X ce_39 rfl inT11 (by decide) w_1127 rfl dX11_silence_57 ?_
      refine r_iload_n (pc := 60) X dX11_silence_60 1 rfl ?_
      refine b_iald (pc := 61) X ce_65 dX11_silence_61 hf (fun j14 hf => ?_)
      refine r_iconst (v := 5) (pc := 62) X dX11_silence_62 (by decide) ?_
      refine b_icmp_ne (tgt := 70) (pc := 63) X dX11_silence_63 (by decide) hf (fun hf => ?_) (fun hf => ?_)
      · refine r_iconst (v := 3) (pc := 66) X dX11_silence_66 (by decide) ?_
        refine r_goto (tgt := 71) (pc := 67) X dX11_silence_67 (by decide) ?_
        refine r_forget (lv' := [(0, .ref (B + 39)), (1, .int l1), (2, .int l2), (3, .int l3)]) [0, 1, 2, 3] rfl ?_
        exact c_f_M_silence_b71 X hr hf
      · refine r_iconst (v := 0) (pc := 70) X dX11_silence_70 (by decide) ?_
        refine r_forget (lv' := [(0, .ref (B + 39)), (1, .int l1), (2, .int l2), (3, .int l3)]) [0, 1, 2, 3] rfl ?_
        exact c_f_M_silence_b71 X hr hf
set_option maxHeartbeats 1000000 in
theorem c_f_M_silence {F : Nat} {s : St} {p1 : Int32} {p2 : Int32} {p3 : Int32} {r : Int32} {s' : St} (hf : f_M_silence F s p1 p2 p3 = some (r, s')) : CC true yX11_silence (Cond.code yX11_silence cX11_silence 5 (some .int)) 2 43 (fun B => [.ref (B + 39), .int p1, .int p2, .int p3]) s (fun B => (some (.int r))) s' 0 0 := by
  refine CC.of (fun B => [(0, .ref (B + 39)), (1, .int p1), (2, .int p2), (3, .int p3)]) (by decide +kernel) (fun _ => rfl) (fun _ => (by simp [lg_sl, rfB_cat, catI, catL, catR])) (fun Γ D B X hr hin => ?_)
  have X : Cx Γ RX11 cX11_silence 5 D B { frames := 2, cells := 0, slots := 0, locals := 43 } := X
  unfold f_M_silence at hf
  refine r_iload_n (pc := 0) X dX11_silence_0 2 rfl ?_
  refine r_aload_n (x := some 39) (pc := 1) X dX11_silence_1 0 rfl ?_
  refine r_get (j := 30) (pc := 2) X ce_39 rfl inT11 (by decide) w_1110 rfl dX11_silence_2 ?_
  refine r_iconst (v := 1) (pc := 5) X dX11_silence_5 (by decide) ?_
  refine r_iadd (pc := 6) X dX11_silence_6 ?_
  refine r_sipush (v := 1000) (pc := 7) X dX11_silence_7 (by decide) ?_
  refine bnd hf (fun x1 h1 hf => ?_)
  refine r_callSi (As := [.int p2, .int ((gI s 2526) + 1), .int 1000]) (st := []) (pc := 10) X (c_f_M_isIn h1) rfl w_1257 w_1258 w_84 w_1259 hdS_X11_isIn (by decide) (by decide) (by decide) (Nat.le_of_ble_eq_true rfl) dX11_silence_10 rfl ?_
  refine b_if_eq (tgt := 31) (pc := 13) X dX11_silence_13 (by decide) hf (fun hf => ?_) (fun hf => ?_)
  · refine r_iconst (v := 0) (pc := 31) X dX11_silence_31 (by decide) ?_
    exact c_f_M_silence_b32 X hr hf
  · refine r_iload_n (pc := 16) X dX11_silence_16 3 rfl ?_
    refine r_iload_n (pc := 17) X dX11_silence_17 2 rfl ?_
    refine r_sipush (v := 1000) (pc := 18) X dX11_silence_18 (by decide) ?_
    refine bnd hf (fun x15 h15 hf => ?_)
    refine r_callSi (As := [.int p3, .int p2, .int 1000]) (st := []) (pc := 21) X (c_f_M_isIn h15) rfl w_1257 w_1258 w_84 w_1259 hdS_X11_isIn (by decide) (by decide) (by decide) (Nat.le_of_ble_eq_true rfl) dX11_silence_21 rfl ?_
    refine b_if_eq (tgt := 31) (pc := 24) X dX11_silence_24 (by decide) hf (fun hf => ?_) (fun hf => ?_)
    · refine r_iconst (v := 0) (pc := 31) X dX11_silence_31 (by decide) ?_
      exact c_f_M_silence_b32 X hr hf
    · refine r_iconst (v := 1) (pc := 27) X dX11_silence_27 (by decide) ?_
      refine r_goto (tgt := 32) (pc := 28) X dX11_silence_28 (by decide) ?_
      exact c_f_M_silence_b32 X hr hf
/-! f_M_inWindow -/
theorem dX11_inWindow_0 : decode cX11_inWindow 0 = .ok (.iconst 0, 1) := by decide +kernel
theorem dX11_inWindow_1 : decode cX11_inWindow 1 = .ok (.istore_n 2, 1) := by decide +kernel
theorem dX11_inWindow_2 : decode cX11_inWindow 2 = .ok (.aload_n 0, 1) := by decide +kernel
theorem dX11_inWindow_3 : decode cX11_inWindow 3 = .ok (.aload_n 0, 1) := by decide +kernel
theorem dX11_inWindow_4 : decode cX11_inWindow 4 = .ok (.iload_n 1, 1) := by decide +kernel
theorem dX11_inWindow_5 : decode cX11_inWindow 5 = .ok (.invokevirtual 330, 3) := by decide +kernel
theorem dX11_inWindow_8 : decode cX11_inWindow 8 = .ok (.ifCond .eq 7, 3) := by decide +kernel
theorem dX11_inWindow_11 : decode cX11_inWindow 11 = .ok (.iconst 0, 1) := by decide +kernel
theorem dX11_inWindow_12 : decode cX11_inWindow 12 = .ok (.goto 4, 3) := by decide +kernel
theorem dX11_inWindow_15 : decode cX11_inWindow 15 = .ok (.iconst 1, 1) := by decide +kernel
theorem dX11_inWindow_16 : decode cX11_inWindow 16 = .ok (.invokevirtual 263, 3) := by decide +kernel
theorem dX11_inWindow_19 : decode cX11_inWindow 19 = .ok (.istore_n 3, 1) := by decide +kernel
theorem dX11_inWindow_20 : decode cX11_inWindow 20 = .ok (.iconst 0, 1) := by decide +kernel
theorem dX11_inWindow_21 : decode cX11_inWindow 21 = .ok (.istore 4, 2) := by decide +kernel
theorem dX11_inWindow_23 : decode cX11_inWindow 23 = .ok (.iload 4, 2) := by decide +kernel
theorem dX11_inWindow_25 : decode cX11_inWindow 25 = .ok (.aload_n 0, 1) := by decide +kernel
theorem dX11_inWindow_26 : decode cX11_inWindow 26 = .ok (.getfield 245, 3) := by decide +kernel
theorem dX11_inWindow_29 : decode cX11_inWindow 29 = .ok (.if_icmp .ge 51, 3) := by decide +kernel
theorem dX11_inWindow_32 : decode cX11_inWindow 32 = .ok (.iload_n 3, 1) := by decide +kernel
theorem dX11_inWindow_33 : decode cX11_inWindow 33 = .ok (.ifCond .eq 47, 3) := by decide +kernel
theorem dX11_inWindow_36 : decode cX11_inWindow 36 = .ok (.iload_n 2, 1) := by decide +kernel
theorem dX11_inWindow_37 : decode cX11_inWindow 37 = .ok (.aload_n 0, 1) := by decide +kernel
theorem dX11_inWindow_38 : decode cX11_inWindow 38 = .ok (.getfield 57, 3) := by decide +kernel
theorem dX11_inWindow_41 : decode cX11_inWindow 41 = .ok (.iload 4, 2) := by decide +kernel
theorem dX11_inWindow_43 : decode cX11_inWindow 43 = .ok (.iaload, 1) := by decide +kernel
theorem dX11_inWindow_44 : decode cX11_inWindow 44 = .ok (.aload_n 0, 1) := by decide +kernel
theorem dX11_inWindow_45 : decode cX11_inWindow 45 = .ok (.getfield 269, 3) := by decide +kernel
theorem dX11_inWindow_48 : decode cX11_inWindow 48 = .ok (.aload_n 0, 1) := by decide +kernel
theorem dX11_inWindow_49 : decode cX11_inWindow 49 = .ok (.getfield 72, 3) := by decide +kernel
theorem dX11_inWindow_52 : decode cX11_inWindow 52 = .ok (.iload_n 1, 1) := by decide +kernel
theorem dX11_inWindow_53 : decode cX11_inWindow 53 = .ok (.iaload, 1) := by decide +kernel
theorem dX11_inWindow_54 : decode cX11_inWindow 54 = .ok (.isub, 1) := by decide +kernel
theorem dX11_inWindow_55 : decode cX11_inWindow 55 = .ok (.iconst 1, 1) := by decide +kernel
theorem dX11_inWindow_56 : decode cX11_inWindow 56 = .ok (.iadd, 1) := by decide +kernel
theorem dX11_inWindow_57 : decode cX11_inWindow 57 = .ok (.aload_n 0, 1) := by decide +kernel
theorem dX11_inWindow_58 : decode cX11_inWindow 58 = .ok (.getfield 269, 3) := by decide +kernel
theorem dX11_inWindow_61 : decode cX11_inWindow 61 = .ok (.invokestatic 109, 3) := by decide +kernel
theorem dX11_inWindow_64 : decode cX11_inWindow 64 = .ok (.ifCond .eq 7, 3) := by decide +kernel
theorem dX11_inWindow_67 : decode cX11_inWindow 67 = .ok (.iconst 1, 1) := by decide +kernel
theorem dX11_inWindow_68 : decode cX11_inWindow 68 = .ok (.goto 4, 3) := by decide +kernel
theorem dX11_inWindow_71 : decode cX11_inWindow 71 = .ok (.iconst 0, 1) := by decide +kernel
theorem dX11_inWindow_72 : decode cX11_inWindow 72 = .ok (.iadd, 1) := by decide +kernel
theorem dX11_inWindow_73 : decode cX11_inWindow 73 = .ok (.istore_n 2, 1) := by decide +kernel
theorem dX11_inWindow_74 : decode cX11_inWindow 74 = .ok (.iinc 4 1, 3) := by decide +kernel
theorem dX11_inWindow_77 : decode cX11_inWindow 77 = .ok (.goto (-54), 3) := by decide +kernel
theorem dX11_inWindow_80 : decode cX11_inWindow 80 = .ok (.iload_n 2, 1) := by decide +kernel
theorem dX11_inWindow_81 : decode cX11_inWindow 81 = .ok (.ireturn, 1) := by decide +kernel
def f_M_inWindow_b23 (F : Nat) : Nat → St → Int32 → Int32 → Int32 → Int32 → Option (Int32 × St)
  | 0, _, _, _, _, _ => none
  | n + 1, s, l1, l2, l3, l4 =>
    if (gI s 2527) ≤ l4 then
      (some (l2, s))
    else
      (if l3 = 0 then
        (some (l2, s))
      else
        ((ix 100 l4).bind fun j3 => ((ix 4 l1).bind fun j4 => ((f_M_isIn F s (gA s 55 j3) (((gI s 2526) - (gA s 60 j4)) + 1) (gI s 2526)).bind fun x5 => (if x5.1 = 0 then
          (f_M_inWindow_b23 F n x5.2 l1 (l2 + 0) l3 (l4 + 1))
        else
          (f_M_inWindow_b23 F n x5.2 l1 (l2 + 1) l3 (l4 + 1)))))))
def f_M_inWindow (F : Nat) (s : St) (p1 : Int32) : Option (Int32 × St) :=
  (f_M_isRule F s p1).bind fun x1 => (if x1.1 = 0 then
    ((f_M_goes F x1.2 1).bind fun x2 => (f_M_inWindow_b23 F F x2.2 p1 0 x2.1 0))
  else
    ((f_M_goes F x1.2 0).bind fun x6 => (f_M_inWindow_b23 F F x6.2 p1 0 x6.1 0)))
set_option maxHeartbeats 1000000 in
theorem c_f_M_inWindow_b23 {F : Nat} {Γ : Ga} {D : DD} {B : Nat} {r : Int32} {s' : St} (X : Cx Γ RX11 cX11_inWindow 5 D B { frames := 2, cells := 0, slots := 0, locals := 43 }) (hr : (Gme Γ).sig.returnType = (some .int)) : ∀ (n : Nat) {s : St} {l1 : Int32} {l2 : Int32} {l3 : Int32} {l4 : Int32}, f_M_inWindow_b23 F n s l1 l2 l3 l4 = some (r, s') → V Γ D B true 5 (QM Γ D B true s' (some (.int r)) 0 0) 0 0 s 23 [(0, .ref (B + 39)), (1, .int l1), (2, .int l2), (3, .int l3), (4, .int l4)] [] := by
  intro n
  induction n with
  | zero => intro s l1 l2 l3 l4 hf; rw [f_M_inWindow_b23] at hf; cases hf
  | succ n ih =>
    intro s l1 l2 l3 l4 hf
    rw [f_M_inWindow_b23] at hf
    refine r_iload (pc := 23) X dX11_inWindow_23 4 rfl ?_
    refine r_aload_n (x := some 39) (pc := 25) X dX11_inWindow_25 0 rfl ?_
    refine r_get (j := 31) (pc := 26) X ce_39 rfl inT11 (by decide) w_1111 rfl dX11_inWindow_26 ?_
    refine b_icmp_ge (tgt := 80) (pc := 29) X dX11_inWindow_29 (by decide) hf (fun hf => ?_) (fun hf => ?_)
    · refine r_iload_n (pc := 80) X dX11_inWindow_80 2 rfl ?_
      exact e_iret (pc := 81) X hr hf (Nat.le_refl _) (Nat.le_refl _) dX11_inWindow_81
    · refine r_iload_n (pc := 32) X dX11_inWindow_32 3 rfl ?_
      refine b_if_eq (tgt := 80) (pc := 33) X dX11_inWindow_33 (by decide) hf (fun hf => ?_) (fun hf => ?_)
      · refine r_iload_n (pc := 80) X dX11_inWindow_80 2 rfl ?_
        exact e_iret (pc := 81) X hr hf (Nat.le_refl _) (Nat.le_refl _) dX11_inWindow_81
      · refine r_iload_n (pc := 36) X dX11_inWindow_36 2 rfl ?_
        refine r_aload_n (x := some 39) (pc := 37) X dX11_inWindow_37 0 rfl ?_
        refine r_get (j := 35) (pc := 38) X ce_39 rfl inT11 (by decide) w_1115 rfl dX11_inWindow_38 ?_
        refine r_iload (pc := 41) X dX11_inWindow_41 4 rfl ?_
        refine b_iald (pc := 43) X ce_55 dX11_inWindow_43 hf (fun j3 hf => ?_)
        refine r_aload_n (x := some 39) (pc := 44) X dX11_inWindow_44 0 rfl ?_
        refine r_get (j := 30) (pc := 45) X ce_39 rfl inT11 (by decide) w_1110 rfl dX11_inWindow_45 ?_
        refine r_aload_n (x := some 39) (pc := 48) X dX11_inWindow_48 0 rfl ?_
        refine r_get (j := 42) (pc := 49) X ce_39 rfl inT11 (by decide) w_1122 rfl dX11_inWindow_49 ?_
        refine r_iload_n (pc := 52) X dX11_inWindow_52 1 rfl ?_
        refine b_iald (pc := 53) X ce_60 dX11_inWindow_53 hf (fun j4 hf => ?_)
        refine r_isub (pc := 54) X dX11_inWindow_54 ?_
        refine r_iconst (v := 1) (pc := 55) X dX11_inWindow_55 (by decide) ?_
        refine r_iadd (pc := 56) X dX11_inWindow_56 ?_
        refine r_aload_n (x := some 39) (pc := 57) X dX11_inWindow_57 0 rfl ?_
        refine r_get (j := 30) (pc := 58) X ce_39 rfl inT11 (by decide) w_1110 rfl dX11_inWindow_58 ?_
        refine bnd hf (fun x5 h5 hf => ?_)
        refine r_callSi (As := [.int (gA s 55 j3), .int (((gI s 2526) - (gA s 60 j4)) + 1), .int (gI s 2526)]) (st := [.int l2]) (pc := 61) X (c_f_M_isIn h5) rfl w_1257 w_1258 w_84 w_1259 hdS_X11_isIn (by decide) (by decide) (by decide) (Nat.le_of_ble_eq_true rfl) dX11_inWindow_61 rfl ?_
        refine b_if_eq (tgt := 71) (pc := 64) X dX11_inWindow_64 (by decide) hf (fun hf => ?_) (fun hf => ?_)
        · refine r_iconst (v := 0) (pc := 71) X dX11_inWindow_71 (by decide) ?_
          refine r_iadd (pc := 72) X dX11_inWindow_72 ?_
          refine r_istore_n (pc := 73) (lv' := [(0, .ref (B + 39)), (1, .int l1), (2, .int (l2 + 0)), (3, .int l3), (4, .int l4)]) X dX11_inWindow_73 (by decide) [1, 2, 0, 3, 4] rfl ?_
          refine r_iinc (v := l4 + 1) (lv' := [(0, .ref (B + 39)), (1, .int l1), (2, .int (l2 + 0)), (3, .int l3), (4, .int (l4 + 1))]) (pc := 74) X dX11_inWindow_74 4 rfl rfl (by decide) [1, 2, 3, 4, 0] rfl ?_
          refine r_goto (tgt := 23) (pc := 77) X dX11_inWindow_77 (by decide) ?_
          exact ih hf
        · refine r_iconst (v := 1) (pc := 67) X dX11_inWindow_67 (by decide) ?_
          refine r_goto (tgt := 72) (pc := 68) X dX11_inWindow_68 (by decide) ?_
          refine r_iadd (pc := 72) X dX11_inWindow_72 ?_
          refine r_istore_n (pc := 73) (lv' := [(0, .ref (B + 39)), (1, .int l1), (2, .int (l2 + 1)), (3, .int l3), (4, .int l4)]) X dX11_inWindow_73 (by decide) [1, 2, 0, 3, 4] rfl ?_
          refine r_iinc (v := l4 + 1) (lv' := [(0, .ref (B + 39)), (1, .int l1), (2, .int (l2 + 1)), (3, .int l3), (4, .int (l4 + 1))]) (pc := 74) X dX11_inWindow_74 4 rfl rfl (by decide) [1, 2, 3, 4, 0] rfl ?_
          refine r_goto (tgt := 23) (pc := 77) X dX11_inWindow_77 (by decide) ?_
          exact ih hf
set_option maxHeartbeats 1000000 in
theorem c_f_M_inWindow {F : Nat} {s : St} {p1 : Int32} {r : Int32} {s' : St} (hf : f_M_inWindow F s p1 = some (r, s')) : CC true yX11_inWindow (Cond.code yX11_inWindow cX11_inWindow 5 (some .int)) 2 43 (fun B => [.ref (B + 39), .int p1]) s (fun B => (some (.int r))) s' 0 0 := by
  refine CC.of (fun B => [(0, .ref (B + 39)), (1, .int p1)]) (by decide +kernel) (fun _ => rfl) (fun _ => (by simp [lg_sl, rfB_cat, catI, catL, catR])) (fun Γ D B X hr hin => ?_)
  have X : Cx Γ RX11 cX11_inWindow 5 D B { frames := 2, cells := 0, slots := 0, locals := 43 } := X
  unfold f_M_inWindow at hf
  refine r_iconst (v := 0) (pc := 0) X dX11_inWindow_0 (by decide) ?_
  refine r_istore_n (pc := 1) (lv' := [(0, .ref (B + 39)), (1, .int p1), (2, .int 0)]) X dX11_inWindow_1 (by decide) [1, 2, 0] rfl ?_
  refine r_aload_n (x := some 39) (pc := 2) X dX11_inWindow_2 0 rfl ?_
  refine r_aload_n (x := some 39) (pc := 3) X dX11_inWindow_3 0 rfl ?_
  refine r_iload_n (pc := 4) X dX11_inWindow_4 1 rfl ?_
  refine bnd hf (fun x1 h1 hf => ?_)
  refine r_callVi (As := [.int p1]) (st := [.ref (B + 39)]) (pc := 5) X (c_f_M_isRule h1) rfl w_1496 w_1498 w_71 w_84 w_1499 hdV_X11_isRule (Rc.s rfl ce_39) (by decide) (by decide) (by decide) (Nat.le_of_ble_eq_true rfl) dX11_inWindow_5 rfl ?_
  refine b_if_eq (tgt := 15) (pc := 8) X dX11_inWindow_8 (by decide) hf (fun hf => ?_) (fun hf => ?_)
  · refine r_iconst (v := 1) (pc := 15) X dX11_inWindow_15 (by decide) ?_
    refine bnd hf (fun x2 h2 hf => ?_)
    refine r_callVi (As := [.int 1]) (st := []) (pc := 16) X (c_f_M_goes h2) rfl w_1260 w_1262 w_35 w_84 w_1263 hdV_X11_goes (Rc.s rfl ce_39) (by decide) (by decide) (by decide) (Nat.le_of_ble_eq_true rfl) dX11_inWindow_16 rfl ?_
    refine r_istore_n (pc := 19) (lv' := [(0, .ref (B + 39)), (1, .int p1), (2, .int 0), (3, .int x2.1)]) X dX11_inWindow_19 (by decide) [1, 2, 3, 0] rfl ?_
    refine r_iconst (v := 0) (pc := 20) X dX11_inWindow_20 (by decide) ?_
    refine r_istore (pc := 21) (lv' := [(0, .ref (B + 39)), (1, .int p1), (2, .int 0), (3, .int x2.1), (4, .int 0)]) X dX11_inWindow_21 (by decide) [1, 2, 3, 4, 0] rfl ?_
    exact c_f_M_inWindow_b23 X hr _ hf
  · refine r_iconst (v := 0) (pc := 11) X dX11_inWindow_11 (by decide) ?_
    refine r_goto (tgt := 16) (pc := 12) X dX11_inWindow_12 (by decide) ?_
    refine bnd hf (fun x6 h6 hf => ?_)
    refine r_callVi (As := [.int 0]) (st := []) (pc := 16) X (c_f_M_goes h6) rfl w_1260 w_1262 w_35 w_84 w_1263 hdV_X11_goes (Rc.s rfl ce_39) (by decide) (by decide) (by decide) (Nat.le_of_ble_eq_true rfl) dX11_inWindow_16 rfl ?_
    refine r_istore_n (pc := 19) (lv' := [(0, .ref (B + 39)), (1, .int p1), (2, .int 0), (3, .int x6.1)]) X dX11_inWindow_19 (by decide) [1, 2, 3, 0] rfl ?_
    refine r_iconst (v := 0) (pc := 20) X dX11_inWindow_20 (by decide) ?_
    refine r_istore (pc := 21) (lv' := [(0, .ref (B + 39)), (1, .int p1), (2, .int 0), (3, .int x6.1), (4, .int 0)]) X dX11_inWindow_21 (by decide) [1, 2, 3, 4, 0] rfl ?_
    exact c_f_M_inWindow_b23 X hr _ hf
/-! f_M_rises -/
theorem dX11_rises_0 : decode cX11_rises 0 = .ok (.aload_n 0, 1) := by decide +kernel
theorem dX11_rises_1 : decode cX11_rises 1 = .ok (.aload_n 0, 1) := by decide +kernel
theorem dX11_rises_2 : decode cX11_rises 2 = .ok (.iload_n 1, 1) := by decide +kernel
theorem dX11_rises_3 : decode cX11_rises 3 = .ok (.invokevirtual 330, 3) := by decide +kernel
theorem dX11_rises_6 : decode cX11_rises 6 = .ok (.ifCond .eq 7, 3) := by decide +kernel
theorem dX11_rises_9 : decode cX11_rises 9 = .ok (.iconst 0, 1) := by decide +kernel
theorem dX11_rises_10 : decode cX11_rises 10 = .ok (.goto 4, 3) := by decide +kernel
theorem dX11_rises_13 : decode cX11_rises 13 = .ok (.iconst 1, 1) := by decide +kernel
theorem dX11_rises_14 : decode cX11_rises 14 = .ok (.invokevirtual 263, 3) := by decide +kernel
theorem dX11_rises_17 : decode cX11_rises 17 = .ok (.ifCond .eq 12, 3) := by decide +kernel
theorem dX11_rises_20 : decode cX11_rises 20 = .ok (.aload_n 0, 1) := by decide +kernel
theorem dX11_rises_21 : decode cX11_rises 21 = .ok (.getfield 84, 3) := by decide +kernel
theorem dX11_rises_24 : decode cX11_rises 24 = .ok (.iload_n 1, 1) := by decide +kernel
theorem dX11_rises_25 : decode cX11_rises 25 = .ok (.iaload, 1) := by decide +kernel
theorem dX11_rises_26 : decode cX11_rises 26 = .ok (.goto 4, 3) := by decide +kernel
theorem dX11_rises_29 : decode cX11_rises 29 = .ok (.iconst 0, 1) := by decide +kernel
theorem dX11_rises_30 : decode cX11_rises 30 = .ok (.ireturn, 1) := by decide +kernel
def f_M_rises (F : Nat) (s : St) (p1 : Int32) : Option (Int32 × St) :=
  (f_M_isRule F s p1).bind fun x1 => (if x1.1 = 0 then
    ((f_M_goes F x1.2 1).bind fun x2 => (if x2.1 = 0 then
      (some (0, x2.2))
    else
      ((ix 4 p1).bind fun j3 => (some ((gA x2.2 64 j3), x2.2)))))
  else
    ((f_M_goes F x1.2 0).bind fun x4 => (if x4.1 = 0 then
      (some (0, x4.2))
    else
      ((ix 4 p1).bind fun j5 => (some ((gA x4.2 64 j5), x4.2))))))
set_option maxHeartbeats 1000000 in
theorem c_f_M_rises {F : Nat} {s : St} {p1 : Int32} {r : Int32} {s' : St} (hf : f_M_rises F s p1 = some (r, s')) : CC true yX11_rises (Cond.code yX11_rises cX11_rises 2 (some .int)) 2 43 (fun B => [.ref (B + 39), .int p1]) s (fun B => (some (.int r))) s' 0 0 := by
  refine CC.of (fun B => [(0, .ref (B + 39)), (1, .int p1)]) (by decide +kernel) (fun _ => rfl) (fun _ => (by simp [lg_sl, rfB_cat, catI, catL, catR])) (fun Γ D B X hr hin => ?_)
  have X : Cx Γ RX11 cX11_rises 2 D B { frames := 2, cells := 0, slots := 0, locals := 43 } := X
  unfold f_M_rises at hf
  refine r_aload_n (x := some 39) (pc := 0) X dX11_rises_0 0 rfl ?_
  refine r_aload_n (x := some 39) (pc := 1) X dX11_rises_1 0 rfl ?_
  refine r_iload_n (pc := 2) X dX11_rises_2 1 rfl ?_
  refine bnd hf (fun x1 h1 hf => ?_)
  refine r_callVi (As := [.int p1]) (st := [.ref (B + 39)]) (pc := 3) X (c_f_M_isRule h1) rfl w_1496 w_1498 w_71 w_84 w_1499 hdV_X11_isRule (Rc.s rfl ce_39) (by decide) (by decide) (by decide) (Nat.le_of_ble_eq_true rfl) dX11_rises_3 rfl ?_
  refine b_if_eq (tgt := 13) (pc := 6) X dX11_rises_6 (by decide) hf (fun hf => ?_) (fun hf => ?_)
  · refine r_iconst (v := 1) (pc := 13) X dX11_rises_13 (by decide) ?_
    refine bnd hf (fun x2 h2 hf => ?_)
    refine r_callVi (As := [.int 1]) (st := []) (pc := 14) X (c_f_M_goes h2) rfl w_1260 w_1262 w_35 w_84 w_1263 hdV_X11_goes (Rc.s rfl ce_39) (by decide) (by decide) (by decide) (Nat.le_of_ble_eq_true rfl) dX11_rises_14 rfl ?_
    refine b_if_eq (tgt := 29) (pc := 17) X dX11_rises_17 (by decide) hf (fun hf => ?_) (fun hf => ?_)
    · refine r_iconst (v := 0) (pc := 29) X dX11_rises_29 (by decide) ?_
      exact e_iret (pc := 30) X hr hf (Nat.le_refl _) (Nat.le_refl _) dX11_rises_30
    · refine r_aload_n (x := some 39) (pc := 20) X dX11_rises_20 0 rfl ?_
      refine r_get (j := 46) (pc := 21) X ce_39 rfl inT11 (by decide) w_1126 rfl dX11_rises_21 ?_
      refine r_iload_n (pc := 24) X dX11_rises_24 1 rfl ?_
      refine b_iald (pc := 25) X ce_64 dX11_rises_25 hf (fun j3 hf => ?_)
      refine r_goto (tgt := 30) (pc := 26) X dX11_rises_26 (by decide) ?_
      exact e_iret (pc := 30) X hr hf (Nat.le_refl _) (Nat.le_refl _) dX11_rises_30
  · refine r_iconst (v := 0) (pc := 9) X dX11_rises_9 (by decide) ?_
    refine r_goto (tgt := 14) (pc := 10) X dX11_rises_10 (by decide) ?_
    refine bnd hf (fun x4 h4 hf => ?_)
    refine r_callVi (As := [.int 0]) (st := []) (pc := 14) X (c_f_M_goes h4) rfl w_1260 w_1262 w_35 w_84 w_1263 hdV_X11_goes (Rc.s rfl ce_39) (by decide) (by decide) (by decide) (Nat.le_of_ble_eq_true rfl) dX11_rises_14 rfl ?_
    refine b_if_eq (tgt := 29) (pc := 17) X dX11_rises_17 (by decide) hf (fun hf => ?_) (fun hf => ?_)
    · refine r_iconst (v := 0) (pc := 29) X dX11_rises_29 (by decide) ?_
      exact e_iret (pc := 30) X hr hf (Nat.le_refl _) (Nat.le_refl _) dX11_rises_30
    · refine r_aload_n (x := some 39) (pc := 20) X dX11_rises_20 0 rfl ?_
      refine r_get (j := 46) (pc := 21) X ce_39 rfl inT11 (by decide) w_1126 rfl dX11_rises_21 ?_
      refine r_iload_n (pc := 24) X dX11_rises_24 1 rfl ?_
      refine b_iald (pc := 25) X ce_64 dX11_rises_25 hf (fun j5 hf => ?_)
      refine r_goto (tgt := 30) (pc := 26) X dX11_rises_26 (by decide) ?_
      exact e_iret (pc := 30) X hr hf (Nat.le_refl _) (Nat.le_refl _) dX11_rises_30
/-! f_M_risesAnew -/
theorem dX11_risesAnew_0 : decode cX11_risesAnew 0 = .ok (.aload_n 0, 1) := by decide +kernel
theorem dX11_risesAnew_1 : decode cX11_risesAnew 1 = .ok (.aload_n 0, 1) := by decide +kernel
theorem dX11_risesAnew_2 : decode cX11_risesAnew 2 = .ok (.iload_n 1, 1) := by decide +kernel
theorem dX11_risesAnew_3 : decode cX11_risesAnew 3 = .ok (.invokevirtual 330, 3) := by decide +kernel
theorem dX11_risesAnew_6 : decode cX11_risesAnew 6 = .ok (.ifCond .eq 7, 3) := by decide +kernel
theorem dX11_risesAnew_9 : decode cX11_risesAnew 9 = .ok (.iconst 0, 1) := by decide +kernel
theorem dX11_risesAnew_10 : decode cX11_risesAnew 10 = .ok (.goto 4, 3) := by decide +kernel
theorem dX11_risesAnew_13 : decode cX11_risesAnew 13 = .ok (.iconst 1, 1) := by decide +kernel
theorem dX11_risesAnew_14 : decode cX11_risesAnew 14 = .ok (.invokevirtual 263, 3) := by decide +kernel
theorem dX11_risesAnew_17 : decode cX11_risesAnew 17 = .ok (.ifCond .eq 12, 3) := by decide +kernel
theorem dX11_risesAnew_20 : decode cX11_risesAnew 20 = .ok (.aload_n 0, 1) := by decide +kernel
theorem dX11_risesAnew_21 : decode cX11_risesAnew 21 = .ok (.getfield 84, 3) := by decide +kernel
theorem dX11_risesAnew_24 : decode cX11_risesAnew 24 = .ok (.iload_n 1, 1) := by decide +kernel
theorem dX11_risesAnew_25 : decode cX11_risesAnew 25 = .ok (.iaload, 1) := by decide +kernel
theorem dX11_risesAnew_26 : decode cX11_risesAnew 26 = .ok (.goto 4, 3) := by decide +kernel
theorem dX11_risesAnew_29 : decode cX11_risesAnew 29 = .ok (.iconst 0, 1) := by decide +kernel
theorem dX11_risesAnew_30 : decode cX11_risesAnew 30 = .ok (.ireturn, 1) := by decide +kernel
def f_M_risesAnew (F : Nat) (s : St) (p1 : Int32) : Option (Int32 × St) :=
  (f_M_isRule F s p1).bind fun x1 => (if x1.1 = 0 then
    ((f_M_goes F x1.2 1).bind fun x2 => (if x2.1 = 0 then
      (some (0, x2.2))
    else
      ((ix 4 p1).bind fun j3 => (some ((gA x2.2 64 j3), x2.2)))))
  else
    ((f_M_goes F x1.2 0).bind fun x4 => (if x4.1 = 0 then
      (some (0, x4.2))
    else
      ((ix 4 p1).bind fun j5 => (some ((gA x4.2 64 j5), x4.2))))))
set_option maxHeartbeats 1000000 in
theorem c_f_M_risesAnew {F : Nat} {s : St} {p1 : Int32} {r : Int32} {s' : St} (hf : f_M_risesAnew F s p1 = some (r, s')) : CC true yX11_risesAnew (Cond.code yX11_risesAnew cX11_risesAnew 2 (some .int)) 2 43 (fun B => [.ref (B + 39), .int p1]) s (fun B => (some (.int r))) s' 0 0 := by
  refine CC.of (fun B => [(0, .ref (B + 39)), (1, .int p1)]) (by decide +kernel) (fun _ => rfl) (fun _ => (by simp [lg_sl, rfB_cat, catI, catL, catR])) (fun Γ D B X hr hin => ?_)
  have X : Cx Γ RX11 cX11_risesAnew 2 D B { frames := 2, cells := 0, slots := 0, locals := 43 } := X
  unfold f_M_risesAnew at hf
  refine r_aload_n (x := some 39) (pc := 0) X dX11_risesAnew_0 0 rfl ?_
  refine r_aload_n (x := some 39) (pc := 1) X dX11_risesAnew_1 0 rfl ?_
  refine r_iload_n (pc := 2) X dX11_risesAnew_2 1 rfl ?_
  refine bnd hf (fun x1 h1 hf => ?_)
  refine r_callVi (As := [.int p1]) (st := [.ref (B + 39)]) (pc := 3) X (c_f_M_isRule h1) rfl w_1496 w_1498 w_71 w_84 w_1499 hdV_X11_isRule (Rc.s rfl ce_39) (by decide) (by decide) (by decide) (Nat.le_of_ble_eq_true rfl) dX11_risesAnew_3 rfl ?_
  refine b_if_eq (tgt := 13) (pc := 6) X dX11_risesAnew_6 (by decide) hf (fun hf => ?_) (fun hf => ?_)
  · refine r_iconst (v := 1) (pc := 13) X dX11_risesAnew_13 (by decide) ?_
    refine bnd hf (fun x2 h2 hf => ?_)
    refine r_callVi (As := [.int 1]) (st := []) (pc := 14) X (c_f_M_goes h2) rfl w_1260 w_1262 w_35 w_84 w_1263 hdV_X11_goes (Rc.s rfl ce_39) (by decide) (by decide) (by decide) (Nat.le_of_ble_eq_true rfl) dX11_risesAnew_14 rfl ?_
    refine b_if_eq (tgt := 29) (pc := 17) X dX11_risesAnew_17 (by decide) hf (fun hf => ?_) (fun hf => ?_)
    · refine r_iconst (v := 0) (pc := 29) X dX11_risesAnew_29 (by decide) ?_
      exact e_iret (pc := 30) X hr hf (Nat.le_refl _) (Nat.le_refl _) dX11_risesAnew_30
    · refine r_aload_n (x := some 39) (pc := 20) X dX11_risesAnew_20 0 rfl ?_
      refine r_get (j := 46) (pc := 21) X ce_39 rfl inT11 (by decide) w_1126 rfl dX11_risesAnew_21 ?_
      refine r_iload_n (pc := 24) X dX11_risesAnew_24 1 rfl ?_
      refine b_iald (pc := 25) X ce_64 dX11_risesAnew_25 hf (fun j3 hf => ?_)
      refine r_goto (tgt := 30) (pc := 26) X dX11_risesAnew_26 (by decide) ?_
      exact e_iret (pc := 30) X hr hf (Nat.le_refl _) (Nat.le_refl _) dX11_risesAnew_30
  · refine r_iconst (v := 0) (pc := 9) X dX11_risesAnew_9 (by decide) ?_
    refine r_goto (tgt := 14) (pc := 10) X dX11_risesAnew_10 (by decide) ?_
    refine bnd hf (fun x4 h4 hf => ?_)
    refine r_callVi (As := [.int 0]) (st := []) (pc := 14) X (c_f_M_goes h4) rfl w_1260 w_1262 w_35 w_84 w_1263 hdV_X11_goes (Rc.s rfl ce_39) (by decide) (by decide) (by decide) (Nat.le_of_ble_eq_true rfl) dX11_risesAnew_14 rfl ?_
    refine b_if_eq (tgt := 29) (pc := 17) X dX11_risesAnew_17 (by decide) hf (fun hf => ?_) (fun hf => ?_)
    · refine r_iconst (v := 0) (pc := 29) X dX11_risesAnew_29 (by decide) ?_
      exact e_iret (pc := 30) X hr hf (Nat.le_refl _) (Nat.le_refl _) dX11_risesAnew_30
    · refine r_aload_n (x := some 39) (pc := 20) X dX11_risesAnew_20 0 rfl ?_
      refine r_get (j := 46) (pc := 21) X ce_39 rfl inT11 (by decide) w_1126 rfl dX11_risesAnew_21 ?_
      refine r_iload_n (pc := 24) X dX11_risesAnew_24 1 rfl ?_
      refine b_iald (pc := 25) X ce_64 dX11_risesAnew_25 hf (fun j5 hf => ?_)
      refine r_goto (tgt := 30) (pc := 26) X dX11_risesAnew_26 (by decide) ?_
      exact e_iret (pc := 30) X hr hf (Nat.le_refl _) (Nat.le_refl _) dX11_risesAnew_30
/-! f_M_isAlarm -/
theorem dX11_isAlarm_0 : decode cX11_isAlarm 0 = .ok (.iload_n 1, 1) := by decide +kernel
theorem dX11_isAlarm_1 : decode cX11_isAlarm 1 = .ok (.iconst 0, 1) := by decide +kernel
theorem dX11_isAlarm_2 : decode cX11_isAlarm 2 = .ok (.aload_n 0, 1) := by decide +kernel
theorem dX11_isAlarm_3 : decode cX11_isAlarm 3 = .ok (.getfield 300, 3) := by decide +kernel
theorem dX11_isAlarm_6 : decode cX11_isAlarm 6 = .ok (.iconst 1, 1) := by decide +kernel
theorem dX11_isAlarm_7 : decode cX11_isAlarm 7 = .ok (.isub, 1) := by decide +kernel
theorem dX11_isAlarm_8 : decode cX11_isAlarm 8 = .ok (.invokestatic 109, 3) := by decide +kernel
theorem dX11_isAlarm_11 : decode cX11_isAlarm 11 = .ok (.ireturn, 1) := by decide +kernel
def f_M_isAlarm (F : Nat) (s : St) (p1 : Int32) : Option (Int32 × St) :=
  (f_M_isIn F s p1 0 ((gI s 2546) - 1)).bind fun x1 => (if x1.1 = 0 ∨ x1.1 = 1 then (some (x1.1, x1.2)) else none)
set_option maxHeartbeats 1000000 in
theorem c_f_M_isAlarm {F : Nat} {s : St} {p1 : Int32} {r : Int32} {s' : St} (hf : f_M_isAlarm F s p1 = some (r, s')) : CC true yX11_isAlarm (Cond.code yX11_isAlarm cX11_isAlarm 2 (some .boolean)) 1 22 (fun B => [.ref (B + 39), .int p1]) s (fun B => (some (.int r))) s' 0 0 := by
  refine CC.of (fun B => [(0, .ref (B + 39)), (1, .int p1)]) (by decide +kernel) (fun _ => rfl) (fun _ => (by simp [lg_sl, rfB_cat, catI, catL, catR])) (fun Γ D B X hr hin => ?_)
  have X : Cx Γ RX11 cX11_isAlarm 2 D B { frames := 1, cells := 0, slots := 0, locals := 22 } := X
  unfold f_M_isAlarm at hf
  refine r_iload_n (pc := 0) X dX11_isAlarm_0 1 rfl ?_
  refine r_iconst (v := 0) (pc := 1) X dX11_isAlarm_1 (by decide) ?_
  refine r_aload_n (x := some 39) (pc := 2) X dX11_isAlarm_2 0 rfl ?_
  refine r_get (j := 50) (pc := 3) X ce_39 rfl inT11 (by decide) w_1130 rfl dX11_isAlarm_3 ?_
  refine r_iconst (v := 1) (pc := 6) X dX11_isAlarm_6 (by decide) ?_
  refine r_isub (pc := 7) X dX11_isAlarm_7 ?_
  refine bnd hf (fun x1 h1 hf => ?_)
  refine r_callSi (As := [.int p1, .int 0, .int ((gI s 2546) - 1)]) (st := []) (pc := 8) X (c_f_M_isIn h1) rfl w_1257 w_1258 w_84 w_1259 hdS_X11_isIn (by decide) (by decide) (by decide) (Nat.le_of_ble_eq_true rfl) dX11_isAlarm_8 rfl ?_
  refine ifo hf (fun hx hf => ?_)
  exact e_zret (pc := 11) X hr hx hf (Nat.le_refl _) (Nat.le_refl _) dX11_isAlarm_11
/-! f_M_alarms -/
theorem dX11_alarms_0 : decode cX11_alarms 0 = .ok (.aload_n 0, 1) := by decide +kernel
theorem dX11_alarms_1 : decode cX11_alarms 1 = .ok (.iconst 0, 1) := by decide +kernel
theorem dX11_alarms_2 : decode cX11_alarms 2 = .ok (.putfield 102, 3) := by decide +kernel
theorem dX11_alarms_5 : decode cX11_alarms 5 = .ok (.aload_n 0, 1) := by decide +kernel
theorem dX11_alarms_6 : decode cX11_alarms 6 = .ok (.getfield 300, 3) := by decide +kernel
theorem dX11_alarms_9 : decode cX11_alarms 9 = .ok (.ireturn, 1) := by decide +kernel
def f_M_alarms (F : Nat) (s : St)  : Option (Int32 × St) :=
  lt (sI s 2551 0) fun s1 => (some ((gI s1 2546), s1))
set_option maxHeartbeats 1000000 in
theorem c_f_M_alarms {F : Nat} {s : St}  {r : Int32} {s' : St} (hf : f_M_alarms F s  = some (r, s')) : CC true yX11_alarms (Cond.code yX11_alarms cX11_alarms 1 (some .int)) 0 0 (fun B => [.ref (B + 39)]) s (fun B => (some (.int r))) s' 0 0 := by
  refine CC.of (fun B => [(0, .ref (B + 39))]) (by decide +kernel) (fun _ => rfl) (fun _ => (by simp [lg_sl, rfB_cat, catI, catL, catR])) (fun Γ D B X hr hin => ?_)
  have X : Cx Γ RX11 cX11_alarms 1 D B { frames := 0, cells := 0, slots := 0, locals := 0 } := X
  unfold f_M_alarms at hf
  refine r_aload_n (x := some 39) (pc := 0) X dX11_alarms_0 0 rfl ?_
  refine r_iconst (v := 0) (pc := 1) X dX11_alarms_1 (by decide) ?_
  refine b_put (j := 55) (pc := 2) X ce_39 rfl inT11 tyX11 tyX11_ok nmX11 (by decide) w_1135 rfl (tyX11_ok 55 (by decide)) rfl rfl (Nat.le_of_ble_eq_true rfl) (cp_2551 _) rfl rfl dX11_alarms_2 hf (fun s1 hf => ?_)
  refine r_aload_n (x := some 39) (pc := 5) X dX11_alarms_5 0 rfl ?_
  refine r_get (j := 50) (pc := 6) X ce_39 rfl inT11 (by decide) w_1130 rfl dX11_alarms_6 ?_
  exact e_iret (pc := 9) X hr hf (Nat.le_refl _) (Nat.le_refl _) dX11_alarms_9
/-! f_M_waiting -/
theorem dX11_waiting_0 : decode cX11_waiting 0 = .ok (.aload_n 0, 1) := by decide +kernel
theorem dX11_waiting_1 : decode cX11_waiting 1 = .ok (.iconst 0, 1) := by decide +kernel
theorem dX11_waiting_2 : decode cX11_waiting 2 = .ok (.putfield 102, 3) := by decide +kernel
theorem dX11_waiting_5 : decode cX11_waiting 5 = .ok (.iconst 0, 1) := by decide +kernel
theorem dX11_waiting_6 : decode cX11_waiting 6 = .ok (.istore_n 1, 1) := by decide +kernel
theorem dX11_waiting_7 : decode cX11_waiting 7 = .ok (.iconst 0, 1) := by decide +kernel
theorem dX11_waiting_8 : decode cX11_waiting 8 = .ok (.istore_n 2, 1) := by decide +kernel
theorem dX11_waiting_9 : decode cX11_waiting 9 = .ok (.iload_n 2, 1) := by decide +kernel
theorem dX11_waiting_10 : decode cX11_waiting 10 = .ok (.aload_n 0, 1) := by decide +kernel
theorem dX11_waiting_11 : decode cX11_waiting 11 = .ok (.getfield 300, 3) := by decide +kernel
theorem dX11_waiting_14 : decode cX11_waiting 14 = .ok (.if_icmp .ge 26, 3) := by decide +kernel
theorem dX11_waiting_17 : decode cX11_waiting 17 = .ok (.iload_n 1, 1) := by decide +kernel
theorem dX11_waiting_18 : decode cX11_waiting 18 = .ok (.aload_n 0, 1) := by decide +kernel
theorem dX11_waiting_19 : decode cX11_waiting 19 = .ok (.iload_n 2, 1) := by decide +kernel
theorem dX11_waiting_20 : decode cX11_waiting 20 = .ok (.invokevirtual 303, 3) := by decide +kernel
theorem dX11_waiting_23 : decode cX11_waiting 23 = .ok (.iconst (-1), 1) := by decide +kernel
theorem dX11_waiting_24 : decode cX11_waiting 24 = .ok (.if_icmp .ne 7, 3) := by decide +kernel
theorem dX11_waiting_27 : decode cX11_waiting 27 = .ok (.iconst 1, 1) := by decide +kernel
theorem dX11_waiting_28 : decode cX11_waiting 28 = .ok (.goto 4, 3) := by decide +kernel
theorem dX11_waiting_31 : decode cX11_waiting 31 = .ok (.iconst 0, 1) := by decide +kernel
theorem dX11_waiting_32 : decode cX11_waiting 32 = .ok (.iadd, 1) := by decide +kernel
theorem dX11_waiting_33 : decode cX11_waiting 33 = .ok (.istore_n 1, 1) := by decide +kernel
theorem dX11_waiting_34 : decode cX11_waiting 34 = .ok (.iinc 2 1, 3) := by decide +kernel
theorem dX11_waiting_37 : decode cX11_waiting 37 = .ok (.goto (-28), 3) := by decide +kernel
theorem dX11_waiting_40 : decode cX11_waiting 40 = .ok (.iload_n 1, 1) := by decide +kernel
theorem dX11_waiting_41 : decode cX11_waiting 41 = .ok (.ireturn, 1) := by decide +kernel
def f_M_waiting_b9 (F : Nat) : Nat → St → Int32 → Int32 → Option (Int32 × St)
  | 0, _, _, _ => none
  | n + 1, s, l1, l2 =>
    if (gI s 2546) ≤ l2 then
      (some (l1, s))
    else
      ((f_M_wokenBy F s l2).bind fun x2 => (if x2.1 = (-1) then
        (f_M_waiting_b9 F n x2.2 (l1 + 1) (l2 + 1))
      else
        (f_M_waiting_b9 F n x2.2 (l1 + 0) (l2 + 1))))
def f_M_waiting (F : Nat) (s : St)  : Option (Int32 × St) :=
  lt (sI s 2551 0) fun s1 => (f_M_waiting_b9 F F s1 0 0)
set_option maxHeartbeats 1000000 in
theorem c_f_M_waiting_b9 {F : Nat} {Γ : Ga} {D : DD} {B : Nat} {r : Int32} {s' : St} (X : Cx Γ RX11 cX11_waiting 3 D B { frames := 1, cells := 0, slots := 0, locals := 21 }) (hr : (Gme Γ).sig.returnType = (some .int)) : ∀ (n : Nat) {s : St} {l1 : Int32} {l2 : Int32}, f_M_waiting_b9 F n s l1 l2 = some (r, s') → V Γ D B true 3 (QM Γ D B true s' (some (.int r)) 0 0) 0 0 s 9 [(0, .ref (B + 39)), (1, .int l1), (2, .int l2)] [] := by
  intro n
  induction n with
  | zero => intro s l1 l2 hf; rw [f_M_waiting_b9] at hf; cases hf
  | succ n ih =>
    intro s l1 l2 hf
    rw [f_M_waiting_b9] at hf
    refine r_iload_n (pc := 9) X dX11_waiting_9 2 rfl ?_
    refine r_aload_n (x := some 39) (pc := 10) X dX11_waiting_10 0 rfl ?_
    refine r_get (j := 50) (pc := 11) X ce_39 rfl inT11 (by decide) w_1130 rfl dX11_waiting_11 ?_
    refine b_icmp_ge (tgt := 40) (pc := 14) X dX11_waiting_14 (by decide) hf (fun hf => ?_) (fun hf => ?_)
    · refine r_iload_n (pc := 40) X dX11_waiting_40 1 rfl ?_
      exact e_iret (pc := 41) X hr hf (Nat.le_refl _) (Nat.le_refl _) dX11_waiting_41
    · refine r_iload_n (pc := 17) X dX11_waiting_17 1 rfl ?_
      refine r_aload_n (x := some 39) (pc := 18) X dX11_waiting_18 0 rfl ?_
      refine r_iload_n (pc := 19) X dX11_waiting_19 2 rfl ?_
      refine bnd hf (fun x2 h2 hf => ?_)
      refine r_callVi (As := [.int l2]) (st := [.int l1]) (pc := 20) X (c_f_M_wokenBy h2) rfl w_1420 w_1422 w_64 w_84 w_1423 hdV_X11_wokenBy (Rc.s rfl ce_39) (by decide) (by decide) (by decide) (Nat.le_of_ble_eq_true rfl) dX11_waiting_20 rfl ?_
      refine r_iconst (v := -1) (pc := 23) X dX11_waiting_23 (by decide) ?_
      refine b_icmp_ne (tgt := 31) (pc := 24) X dX11_waiting_24 (by decide) hf (fun hf => ?_) (fun hf => ?_)
      · refine r_iconst (v := 1) (pc := 27) X dX11_waiting_27 (by decide) ?_
        refine r_goto (tgt := 32) (pc := 28) X dX11_waiting_28 (by decide) ?_
        refine r_iadd (pc := 32) X dX11_waiting_32 ?_
        refine r_istore_n (pc := 33) (lv' := [(0, .ref (B + 39)), (1, .int (l1 + 1)), (2, .int l2)]) X dX11_waiting_33 (by decide) [1, 0, 2] rfl ?_
        refine r_iinc (v := l2 + 1) (lv' := [(0, .ref (B + 39)), (1, .int (l1 + 1)), (2, .int (l2 + 1))]) (pc := 34) X dX11_waiting_34 2 rfl rfl (by decide) [1, 2, 0] rfl ?_
        refine r_goto (tgt := 9) (pc := 37) X dX11_waiting_37 (by decide) ?_
        exact ih hf
      · refine r_iconst (v := 0) (pc := 31) X dX11_waiting_31 (by decide) ?_
        refine r_iadd (pc := 32) X dX11_waiting_32 ?_
        refine r_istore_n (pc := 33) (lv' := [(0, .ref (B + 39)), (1, .int (l1 + 0)), (2, .int l2)]) X dX11_waiting_33 (by decide) [1, 0, 2] rfl ?_
        refine r_iinc (v := l2 + 1) (lv' := [(0, .ref (B + 39)), (1, .int (l1 + 0)), (2, .int (l2 + 1))]) (pc := 34) X dX11_waiting_34 2 rfl rfl (by decide) [1, 2, 0] rfl ?_
        refine r_goto (tgt := 9) (pc := 37) X dX11_waiting_37 (by decide) ?_
        exact ih hf
set_option maxHeartbeats 1000000 in
theorem c_f_M_waiting {F : Nat} {s : St}  {r : Int32} {s' : St} (hf : f_M_waiting F s  = some (r, s')) : CC true yX11_waiting (Cond.code yX11_waiting cX11_waiting 3 (some .int)) 1 21 (fun B => [.ref (B + 39)]) s (fun B => (some (.int r))) s' 0 0 := by
  refine CC.of (fun B => [(0, .ref (B + 39))]) (by decide +kernel) (fun _ => rfl) (fun _ => (by simp [lg_sl, rfB_cat, catI, catL, catR])) (fun Γ D B X hr hin => ?_)
  have X : Cx Γ RX11 cX11_waiting 3 D B { frames := 1, cells := 0, slots := 0, locals := 21 } := X
  unfold f_M_waiting at hf
  refine r_aload_n (x := some 39) (pc := 0) X dX11_waiting_0 0 rfl ?_
  refine r_iconst (v := 0) (pc := 1) X dX11_waiting_1 (by decide) ?_
  refine b_put (j := 55) (pc := 2) X ce_39 rfl inT11 tyX11 tyX11_ok nmX11 (by decide) w_1135 rfl (tyX11_ok 55 (by decide)) rfl rfl (Nat.le_of_ble_eq_true rfl) (cp_2551 _) rfl rfl dX11_waiting_2 hf (fun s1 hf => ?_)
  refine r_iconst (v := 0) (pc := 5) X dX11_waiting_5 (by decide) ?_
  refine r_istore_n (pc := 6) (lv' := [(0, .ref (B + 39)), (1, .int 0)]) X dX11_waiting_6 (by decide) [1, 0] rfl ?_
  refine r_iconst (v := 0) (pc := 7) X dX11_waiting_7 (by decide) ?_
  refine r_istore_n (pc := 8) (lv' := [(0, .ref (B + 39)), (1, .int 0), (2, .int 0)]) X dX11_waiting_8 (by decide) [1, 2, 0] rfl ?_
  exact c_f_M_waiting_b9 X hr _ hf
/-! f_M_alarm -/
theorem dX11_alarm_0 : decode cX11_alarm 0 = .ok (.aload_n 0, 1) := by decide +kernel
theorem dX11_alarm_1 : decode cX11_alarm 1 = .ok (.aload_n 0, 1) := by decide +kernel
theorem dX11_alarm_2 : decode cX11_alarm 2 = .ok (.iload_n 1, 1) := by decide +kernel
theorem dX11_alarm_3 : decode cX11_alarm 3 = .ok (.invokevirtual 333, 3) := by decide +kernel
theorem dX11_alarm_6 : decode cX11_alarm 6 = .ok (.ifCond .eq 7, 3) := by decide +kernel
theorem dX11_alarm_9 : decode cX11_alarm 9 = .ok (.iconst 0, 1) := by decide +kernel
theorem dX11_alarm_10 : decode cX11_alarm 10 = .ok (.goto 4, 3) := by decide +kernel
theorem dX11_alarm_13 : decode cX11_alarm 13 = .ok (.iconst 1, 1) := by decide +kernel
theorem dX11_alarm_14 : decode cX11_alarm 14 = .ok (.invokevirtual 263, 3) := by decide +kernel
theorem dX11_alarm_17 : decode cX11_alarm 17 = .ok (.ifCond .eq 31, 3) := by decide +kernel
theorem dX11_alarm_20 : decode cX11_alarm 20 = .ok (.sipush 10000, 3) := by decide +kernel
theorem dX11_alarm_23 : decode cX11_alarm 23 = .ok (.aload_n 0, 1) := by decide +kernel
theorem dX11_alarm_24 : decode cX11_alarm 24 = .ok (.getfield 96, 3) := by decide +kernel
theorem dX11_alarm_27 : decode cX11_alarm 27 = .ok (.iload_n 1, 1) := by decide +kernel
theorem dX11_alarm_28 : decode cX11_alarm 28 = .ok (.iaload, 1) := by decide +kernel
theorem dX11_alarm_29 : decode cX11_alarm 29 = .ok (.iconst 3, 1) := by decide +kernel
theorem dX11_alarm_30 : decode cX11_alarm 30 = .ok (.iand, 1) := by decide +kernel
theorem dX11_alarm_31 : decode cX11_alarm 31 = .ok (.imul, 1) := by decide +kernel
theorem dX11_alarm_32 : decode cX11_alarm 32 = .ok (.aload_n 0, 1) := by decide +kernel
theorem dX11_alarm_33 : decode cX11_alarm 33 = .ok (.getfield 96, 3) := by decide +kernel
theorem dX11_alarm_36 : decode cX11_alarm 36 = .ok (.iload_n 1, 1) := by decide +kernel
theorem dX11_alarm_37 : decode cX11_alarm 37 = .ok (.iaload, 1) := by decide +kernel
theorem dX11_alarm_38 : decode cX11_alarm 38 = .ok (.iconst 2, 1) := by decide +kernel
theorem dX11_alarm_39 : decode cX11_alarm 39 = .ok (.ishr, 1) := by decide +kernel
theorem dX11_alarm_40 : decode cX11_alarm 40 = .ok (.sipush 1023, 3) := by decide +kernel
theorem dX11_alarm_43 : decode cX11_alarm 43 = .ok (.iand, 1) := by decide +kernel
theorem dX11_alarm_44 : decode cX11_alarm 44 = .ok (.iadd, 1) := by decide +kernel
theorem dX11_alarm_45 : decode cX11_alarm 45 = .ok (.goto 4, 3) := by decide +kernel
theorem dX11_alarm_48 : decode cX11_alarm 48 = .ok (.iconst 0, 1) := by decide +kernel
theorem dX11_alarm_49 : decode cX11_alarm 49 = .ok (.ireturn, 1) := by decide +kernel
def f_M_alarm_b14 (F : Nat) (s : St) (l1 : Int32) (t1 : Int32) : Option (Int32 × St) :=
  (f_M_goes F s t1).bind fun x2 => (if x2.1 = 0 then
    (some (0, x2.2))
  else
    ((ix 4000 l1).bind fun j3 => ((ix 4000 l1).bind fun j4 => (some ((((10000 : Int32) * ((gA x2.2 68 j3) &&& 3)) + (((gA x2.2 68 j4) >>> ((2 : Int32) &&& 31)) &&& 1023)), x2.2)))))
def f_M_alarm (F : Nat) (s : St) (p1 : Int32) : Option (Int32 × St) :=
  (f_M_isAlarm F s p1).bind fun x1 => (if x1.1 = 0 then
    (f_M_alarm_b14 F x1.2 p1 1)
  else
    (f_M_alarm_b14 F x1.2 p1 0))
set_option maxHeartbeats 1000000 in
theorem c_f_M_alarm_b14 {F : Nat} {Γ : Ga} {D : DD} {B : Nat} {r : Int32} {s' : St} (X : Cx Γ RX11 cX11_alarm 2 D B { frames := 2, cells := 0, slots := 0, locals := 43 }) (hr : (Gme Γ).sig.returnType = (some .int)) {s : St} {l1 : Int32} {t1 : Int32} (hf : f_M_alarm_b14 F s l1 t1 = some (r, s')) : V Γ D B true 2 (QM Γ D B true s' (some (.int r)) 0 0) 0 0 s 14 [(0, .ref (B + 39)), (1, .int l1)] [.int t1, .ref (B + 39)] := by
  unfold f_M_alarm_b14 at hf
  refine bnd hf (fun x2 h2 hf => ?_)
  refine r_callVi (As := [.int t1]) (st := []) (pc := 14) X (c_f_M_goes h2) rfl w_1260 w_1262 w_35 w_84 w_1263 hdV_X11_goes (Rc.s rfl ce_39) (by decide) (by decide) (by decide) (Nat.le_of_ble_eq_true rfl) dX11_alarm_14 rfl ?_
  refine b_if_eq (tgt := 48) (pc := 17) X dX11_alarm_17 (by decide) hf (fun hf => ?_) (fun hf => ?_)
  · refine r_iconst (v := 0) (pc := 48) X dX11_alarm_48 (by decide) ?_
    exact e_iret (pc := 49) X hr hf (Nat.le_refl _) (Nat.le_refl _) dX11_alarm_49
  · refine r_sipush (v := 10000) (pc := 20) X dX11_alarm_20 (by decide) ?_
    refine r_aload_n (x := some 39) (pc := 23) X dX11_alarm_23 0 rfl ?_
    refine r_get (j := 51) (pc := 24) X ce_39 rfl inT11 (by decide) w_1131 rfl dX11_alarm_24 ?_
    refine r_iload_n (pc := 27) X dX11_alarm_27 1 rfl ?_
    refine b_iald (pc := 28) X ce_68 dX11_alarm_28 hf (fun j3 hf => ?_)
    refine r_iconst (v := 3) (pc := 29) X dX11_alarm_29 (by decide) ?_
    refine r_iand (pc := 30) X dX11_alarm_30 ?_
    refine r_imul (pc := 31) X dX11_alarm_31 ?_
    refine r_aload_n (x := some 39) (pc := 32) X dX11_alarm_32 0 rfl ?_
    refine r_get (j := 51) (pc := 33) X ce_39 rfl inT11 (by decide) w_1131 rfl dX11_alarm_33 ?_
    refine r_iload_n (pc := 36) X dX11_alarm_36 1 rfl ?_
    refine b_iald (pc := 37) X ce_68 dX11_alarm_37 hf (fun j4 hf => ?_)
    refine r_iconst (v := 2) (pc := 38) X dX11_alarm_38 (by decide) ?_
    refine r_ishr (pc := 39) X dX11_alarm_39 ?_
    refine r_sipush (v := 1023) (pc := 40) X dX11_alarm_40 (by decide) ?_
    refine r_iand (pc := 43) X dX11_alarm_43 ?_
    refine r_iadd (pc := 44) X dX11_alarm_44 ?_
    refine r_goto (tgt := 49) (pc := 45) X dX11_alarm_45 (by decide) ?_
    exact e_iret (pc := 49) X hr hf (Nat.le_refl _) (Nat.le_refl _) dX11_alarm_49
set_option maxHeartbeats 1000000 in
theorem c_f_M_alarm {F : Nat} {s : St} {p1 : Int32} {r : Int32} {s' : St} (hf : f_M_alarm F s p1 = some (r, s')) : CC true yX11_alarm (Cond.code yX11_alarm cX11_alarm 2 (some .int)) 2 43 (fun B => [.ref (B + 39), .int p1]) s (fun B => (some (.int r))) s' 0 0 := by
  refine CC.of (fun B => [(0, .ref (B + 39)), (1, .int p1)]) (by decide +kernel) (fun _ => rfl) (fun _ => (by simp [lg_sl, rfB_cat, catI, catL, catR])) (fun Γ D B X hr hin => ?_)
  have X : Cx Γ RX11 cX11_alarm 2 D B { frames := 2, cells := 0, slots := 0, locals := 43 } := X
  unfold f_M_alarm at hf
  refine r_aload_n (x := some 39) (pc := 0) X dX11_alarm_0 0 rfl ?_
  refine r_aload_n (x := some 39) (pc := 1) X dX11_alarm_1 0 rfl ?_
  refine r_iload_n (pc := 2) X dX11_alarm_2 1 rfl ?_
  refine bnd hf (fun x1 h1 hf => ?_)
  refine r_callVi (As := [.int p1]) (st := [.ref (B + 39)]) (pc := 3) X (c_f_M_isAlarm h1) rfl w_1528 w_1530 w_72 w_84 w_1531 hdV_X11_isAlarm (Rc.s rfl ce_39) (by decide) (by decide) (by decide) (Nat.le_of_ble_eq_true rfl) dX11_alarm_3 rfl ?_
  refine b_if_eq (tgt := 13) (pc := 6) X dX11_alarm_6 (by decide) hf (fun hf => ?_) (fun hf => ?_)
  · refine r_iconst (v := 1) (pc := 13) X dX11_alarm_13 (by decide) ?_
    exact c_f_M_alarm_b14 X hr hf
  · refine r_iconst (v := 0) (pc := 9) X dX11_alarm_9 (by decide) ?_
    refine r_goto (tgt := 14) (pc := 10) X dX11_alarm_10 (by decide) ?_
    exact c_f_M_alarm_b14 X hr hf
/-! f_M_woken -/
theorem dX11_woken_0 : decode cX11_woken 0 = .ok (.aload_n 0, 1) := by decide +kernel
theorem dX11_woken_1 : decode cX11_woken 1 = .ok (.aload_n 0, 1) := by decide +kernel
theorem dX11_woken_2 : decode cX11_woken 2 = .ok (.iload_n 1, 1) := by decide +kernel
theorem dX11_woken_3 : decode cX11_woken 3 = .ok (.invokevirtual 333, 3) := by decide +kernel
theorem dX11_woken_6 : decode cX11_woken 6 = .ok (.ifCond .eq 7, 3) := by decide +kernel
theorem dX11_woken_9 : decode cX11_woken 9 = .ok (.iconst 0, 1) := by decide +kernel
theorem dX11_woken_10 : decode cX11_woken 10 = .ok (.goto 4, 3) := by decide +kernel
theorem dX11_woken_13 : decode cX11_woken 13 = .ok (.iconst 1, 1) := by decide +kernel
theorem dX11_woken_14 : decode cX11_woken 14 = .ok (.invokevirtual 263, 3) := by decide +kernel
theorem dX11_woken_17 : decode cX11_woken 17 = .ok (.ifCond .eq 11, 3) := by decide +kernel
theorem dX11_woken_20 : decode cX11_woken 20 = .ok (.aload_n 0, 1) := by decide +kernel
theorem dX11_woken_21 : decode cX11_woken 21 = .ok (.iload_n 1, 1) := by decide +kernel
theorem dX11_woken_22 : decode cX11_woken 22 = .ok (.invokevirtual 303, 3) := by decide +kernel
theorem dX11_woken_25 : decode cX11_woken 25 = .ok (.goto 4, 3) := by decide +kernel
theorem dX11_woken_28 : decode cX11_woken 28 = .ok (.iconst 0, 1) := by decide +kernel
theorem dX11_woken_29 : decode cX11_woken 29 = .ok (.ireturn, 1) := by decide +kernel
def f_M_woken (F : Nat) (s : St) (p1 : Int32) : Option (Int32 × St) :=
  (f_M_isAlarm F s p1).bind fun x1 => (if x1.1 = 0 then
    ((f_M_goes F x1.2 1).bind fun x2 => (if x2.1 = 0 then
      (some (0, x2.2))
    else
      ((f_M_wokenBy F x2.2 p1).bind fun x3 => (some (x3.1, x3.2)))))
  else
    ((f_M_goes F x1.2 0).bind fun x4 => (if x4.1 = 0 then
      (some (0, x4.2))
    else
      ((f_M_wokenBy F x4.2 p1).bind fun x5 => (some (x5.1, x5.2))))))
set_option maxHeartbeats 1000000 in
theorem c_f_M_woken {F : Nat} {s : St} {p1 : Int32} {r : Int32} {s' : St} (hf : f_M_woken F s p1 = some (r, s')) : CC true yX11_woken (Cond.code yX11_woken cX11_woken 2 (some .int)) 2 43 (fun B => [.ref (B + 39), .int p1]) s (fun B => (some (.int r))) s' 0 0 := by
  refine CC.of (fun B => [(0, .ref (B + 39)), (1, .int p1)]) (by decide +kernel) (fun _ => rfl) (fun _ => (by simp [lg_sl, rfB_cat, catI, catL, catR])) (fun Γ D B X hr hin => ?_)
  have X : Cx Γ RX11 cX11_woken 2 D B { frames := 2, cells := 0, slots := 0, locals := 43 } := X
  unfold f_M_woken at hf
  refine r_aload_n (x := some 39) (pc := 0) X dX11_woken_0 0 rfl ?_
  refine r_aload_n (x := some 39) (pc := 1) X dX11_woken_1 0 rfl ?_
  refine r_iload_n (pc := 2) X dX11_woken_2 1 rfl ?_
  refine bnd hf (fun x1 h1 hf => ?_)
  refine r_callVi (As := [.int p1]) (st := [.ref (B + 39)]) (pc := 3) X (c_f_M_isAlarm h1) rfl w_1528 w_1530 w_72 w_84 w_1531 hdV_X11_isAlarm (Rc.s rfl ce_39) (by decide) (by decide) (by decide) (Nat.le_of_ble_eq_true rfl) dX11_woken_3 rfl ?_
  refine b_if_eq (tgt := 13) (pc := 6) X dX11_woken_6 (by decide) hf (fun hf => ?_) (fun hf => ?_)
  · refine r_iconst (v := 1) (pc := 13) X dX11_woken_13 (by decide) ?_
    refine bnd hf (fun x2 h2 hf => ?_)
    refine r_callVi (As := [.int 1]) (st := []) (pc := 14) X (c_f_M_goes h2) rfl w_1260 w_1262 w_35 w_84 w_1263 hdV_X11_goes (Rc.s rfl ce_39) (by decide) (by decide) (by decide) (Nat.le_of_ble_eq_true rfl) dX11_woken_14 rfl ?_
    refine b_if_eq (tgt := 28) (pc := 17) X dX11_woken_17 (by decide) hf (fun hf => ?_) (fun hf => ?_)
    · refine r_iconst (v := 0) (pc := 28) X dX11_woken_28 (by decide) ?_
      exact e_iret (pc := 29) X hr hf (Nat.le_refl _) (Nat.le_refl _) dX11_woken_29
    · refine r_aload_n (x := some 39) (pc := 20) X dX11_woken_20 0 rfl ?_
      refine r_iload_n (pc := 21) X dX11_woken_21 1 rfl ?_
      refine bnd hf (fun x3 h3 hf => ?_)
      refine r_callVi (As := [.int p1]) (st := []) (pc := 22) X (c_f_M_wokenBy h3) rfl w_1420 w_1422 w_64 w_84 w_1423 hdV_X11_wokenBy (Rc.s rfl ce_39) (by decide) (by decide) (by decide) (Nat.le_of_ble_eq_true rfl) dX11_woken_22 rfl ?_
      refine r_goto (tgt := 29) (pc := 25) X dX11_woken_25 (by decide) ?_
      exact e_iret (pc := 29) X hr hf (Nat.le_refl _) (Nat.le_refl _) dX11_woken_29
  · refine r_iconst (v := 0) (pc := 9) X dX11_woken_9 (by decide) ?_
    refine r_goto (tgt := 14) (pc := 10) X dX11_woken_10 (by decide) ?_
    refine bnd hf (fun x4 h4 hf => ?_)
    refine r_callVi (As := [.int 0]) (st := []) (pc := 14) X (c_f_M_goes h4) rfl w_1260 w_1262 w_35 w_84 w_1263 hdV_X11_goes (Rc.s rfl ce_39) (by decide) (by decide) (by decide) (Nat.le_of_ble_eq_true rfl) dX11_woken_14 rfl ?_
    refine b_if_eq (tgt := 28) (pc := 17) X dX11_woken_17 (by decide) hf (fun hf => ?_) (fun hf => ?_)
    · refine r_iconst (v := 0) (pc := 28) X dX11_woken_28 (by decide) ?_
      exact e_iret (pc := 29) X hr hf (Nat.le_refl _) (Nat.le_refl _) dX11_woken_29
    · refine r_aload_n (x := some 39) (pc := 20) X dX11_woken_20 0 rfl ?_
      refine r_iload_n (pc := 21) X dX11_woken_21 1 rfl ?_
      refine bnd hf (fun x5 h5 hf => ?_)
      refine r_callVi (As := [.int p1]) (st := []) (pc := 22) X (c_f_M_wokenBy h5) rfl w_1420 w_1422 w_64 w_84 w_1423 hdV_X11_wokenBy (Rc.s rfl ce_39) (by decide) (by decide) (by decide) (Nat.le_of_ble_eq_true rfl) dX11_woken_22 rfl ?_
      refine r_goto (tgt := 29) (pc := 25) X dX11_woken_25 (by decide) ?_
      exact e_iret (pc := 29) X hr hf (Nat.le_refl _) (Nat.le_refl _) dX11_woken_29
/-! f_M_wokenAt -/
theorem dX11_wokenAt_0 : decode cX11_wokenAt 0 = .ok (.aload_n 0, 1) := by decide +kernel
theorem dX11_wokenAt_1 : decode cX11_wokenAt 1 = .ok (.aload_n 0, 1) := by decide +kernel
theorem dX11_wokenAt_2 : decode cX11_wokenAt 2 = .ok (.iload_n 1, 1) := by decide +kernel
theorem dX11_wokenAt_3 : decode cX11_wokenAt 3 = .ok (.invokevirtual 333, 3) := by decide +kernel
theorem dX11_wokenAt_6 : decode cX11_wokenAt 6 = .ok (.ifCond .ne 7, 3) := by decide +kernel
theorem dX11_wokenAt_9 : decode cX11_wokenAt 9 = .ok (.iconst 1, 1) := by decide +kernel
theorem dX11_wokenAt_10 : decode cX11_wokenAt 10 = .ok (.goto 17, 3) := by decide +kernel
theorem dX11_wokenAt_13 : decode cX11_wokenAt 13 = .ok (.aload_n 0, 1) := by decide +kernel
theorem dX11_wokenAt_14 : decode cX11_wokenAt 14 = .ok (.iload_n 1, 1) := by decide +kernel
theorem dX11_wokenAt_15 : decode cX11_wokenAt 15 = .ok (.invokevirtual 303, 3) := by decide +kernel
theorem dX11_wokenAt_18 : decode cX11_wokenAt 18 = .ok (.iconst (-1), 1) := by decide +kernel
theorem dX11_wokenAt_19 : decode cX11_wokenAt 19 = .ok (.if_icmp .ne 7, 3) := by decide +kernel
theorem dX11_wokenAt_22 : decode cX11_wokenAt 22 = .ok (.iconst 2, 1) := by decide +kernel
theorem dX11_wokenAt_23 : decode cX11_wokenAt 23 = .ok (.goto 4, 3) := by decide +kernel
theorem dX11_wokenAt_26 : decode cX11_wokenAt 26 = .ok (.iconst 0, 1) := by decide +kernel
theorem dX11_wokenAt_27 : decode cX11_wokenAt 27 = .ok (.invokevirtual 263, 3) := by decide +kernel
theorem dX11_wokenAt_30 : decode cX11_wokenAt 30 = .ok (.ifCond .eq 19, 3) := by decide +kernel
theorem dX11_wokenAt_33 : decode cX11_wokenAt 33 = .ok (.aload_n 0, 1) := by decide +kernel
theorem dX11_wokenAt_34 : decode cX11_wokenAt 34 = .ok (.getfield 96, 3) := by decide +kernel
theorem dX11_wokenAt_37 : decode cX11_wokenAt 37 = .ok (.iload_n 1, 1) := by decide +kernel
theorem dX11_wokenAt_38 : decode cX11_wokenAt 38 = .ok (.iaload, 1) := by decide +kernel
theorem dX11_wokenAt_39 : decode cX11_wokenAt 39 = .ok (.bipush 16, 2) := by decide +kernel
theorem dX11_wokenAt_41 : decode cX11_wokenAt 41 = .ok (.ishr, 1) := by decide +kernel
theorem dX11_wokenAt_42 : decode cX11_wokenAt 42 = .ok (.sipush 1023, 3) := by decide +kernel
theorem dX11_wokenAt_45 : decode cX11_wokenAt 45 = .ok (.iand, 1) := by decide +kernel
theorem dX11_wokenAt_46 : decode cX11_wokenAt 46 = .ok (.goto 4, 3) := by decide +kernel
theorem dX11_wokenAt_49 : decode cX11_wokenAt 49 = .ok (.iconst 0, 1) := by decide +kernel
theorem dX11_wokenAt_50 : decode cX11_wokenAt 50 = .ok (.ireturn, 1) := by decide +kernel
def f_M_wokenAt (F : Nat) (s : St) (p1 : Int32) : Option (Int32 × St) :=
  (f_M_isAlarm F s p1).bind fun x1 => (if x1.1 = 0 then
    ((f_M_goes F x1.2 1).bind fun x2 => (if x2.1 = 0 then
      (some (0, x2.2))
    else
      ((ix 4000 p1).bind fun j3 => (some ((((gA x2.2 68 j3) >>> ((16 : Int32) &&& 31)) &&& 1023), x2.2)))))
  else
    ((f_M_wokenBy F x1.2 p1).bind fun x4 => (if x4.1 = (-1) then
      ((f_M_goes F x4.2 2).bind fun x5 => (if x5.1 = 0 then
        (some (0, x5.2))
      else
        ((ix 4000 p1).bind fun j6 => (some ((((gA x5.2 68 j6) >>> ((16 : Int32) &&& 31)) &&& 1023), x5.2)))))
    else
      ((f_M_goes F x4.2 0).bind fun x7 => (if x7.1 = 0 then
        (some (0, x7.2))
      else
        ((ix 4000 p1).bind fun j8 => (some ((((gA x7.2 68 j8) >>> ((16 : Int32) &&& 31)) &&& 1023), x7.2))))))))
set_option maxHeartbeats 1000000 in
theorem c_f_M_wokenAt {F : Nat} {s : St} {p1 : Int32} {r : Int32} {s' : St} (hf : f_M_wokenAt F s p1 = some (r, s')) : CC true yX11_wokenAt (Cond.code yX11_wokenAt cX11_wokenAt 2 (some .int)) 2 43 (fun B => [.ref (B + 39), .int p1]) s (fun B => (some (.int r))) s' 0 0 := by
  refine CC.of (fun B => [(0, .ref (B + 39)), (1, .int p1)]) (by decide +kernel) (fun _ => rfl) (fun _ => (by simp [lg_sl, rfB_cat, catI, catL, catR])) (fun Γ D B X hr hin => ?_)
  have X : Cx Γ RX11 cX11_wokenAt 2 D B { frames := 2, cells := 0, slots := 0, locals := 43 } := X
  unfold f_M_wokenAt at hf
  refine r_aload_n (x := some 39) (pc := 0) X dX11_wokenAt_0 0 rfl ?_
  refine r_aload_n (x := some 39) (pc := 1) X dX11_wokenAt_1 0 rfl ?_
  refine r_iload_n (pc := 2) X dX11_wokenAt_2 1 rfl ?_
  refine bnd hf (fun x1 h1 hf => ?_)
  refine r_callVi (As := [.int p1]) (st := [.ref (B + 39)]) (pc := 3) X (c_f_M_isAlarm h1) rfl w_1528 w_1530 w_72 w_84 w_1531 hdV_X11_isAlarm (Rc.s rfl ce_39) (by decide) (by decide) (by decide) (Nat.le_of_ble_eq_true rfl) dX11_wokenAt_3 rfl ?_
  refine b_if_ne (tgt := 13) (pc := 6) X dX11_wokenAt_6 (by decide) hf (fun hf => ?_) (fun hf => ?_)
  · refine r_iconst (v := 1) (pc := 9) X dX11_wokenAt_9 (by decide) ?_
    refine r_goto (tgt := 27) (pc := 10) X dX11_wokenAt_10 (by decide) ?_
    refine bnd hf (fun x2 h2 hf => ?_)
    refine r_callVi (As := [.int 1]) (st := []) (pc := 27) X (c_f_M_goes h2) rfl w_1260 w_1262 w_35 w_84 w_1263 hdV_X11_goes (Rc.s rfl ce_39) (by decide) (by decide) (by decide) (Nat.le_of_ble_eq_true rfl) dX11_wokenAt_27 rfl ?_
    refine b_if_eq (tgt := 49) (pc := 30) X dX11_wokenAt_30 (by decide) hf (fun hf => ?_) (fun hf => ?_)
    · refine r_iconst (v := 0) (pc := 49) X dX11_wokenAt_49 (by decide) ?_
      exact e_iret (pc := 50) X hr hf (Nat.le_refl _) (Nat.le_refl _) dX11_wokenAt_50
    · refine r_aload_n (x := some 39) (pc := 33) X dX11_wokenAt_33 0 rfl ?_
      refine r_get (j := 51) (pc := 34) X ce_39 rfl inT11 (by decide) w_1131 rfl dX11_wokenAt_34 ?_
      refine r_iload_n (pc := 37) X dX11_wokenAt_37 1 rfl ?_
      refine b_iald (pc := 38) X ce_68 dX11_wokenAt_38 hf (fun j3 hf => ?_)
      refine r_bipush (v := 16) (pc := 39) X dX11_wokenAt_39 (by decide) ?_
      refine r_ishr (pc := 41) X dX11_wokenAt_41 ?_
      refine r_sipush (v := 1023) (pc := 42) X dX11_wokenAt_42 (by decide) ?_
      refine r_iand (pc := 45) X dX11_wokenAt_45 ?_
      refine r_goto (tgt := 50) (pc := 46) X dX11_wokenAt_46 (by decide) ?_
      exact e_iret (pc := 50) X hr hf (Nat.le_refl _) (Nat.le_refl _) dX11_wokenAt_50
  · refine r_aload_n (x := some 39) (pc := 13) X dX11_wokenAt_13 0 rfl ?_
    refine r_iload_n (pc := 14) X dX11_wokenAt_14 1 rfl ?_
    refine bnd hf (fun x4 h4 hf => ?_)
    refine r_callVi (As := [.int p1]) (st := [.ref (B + 39)]) (pc := 15) X (c_f_M_wokenBy h4) rfl w_1420 w_1422 w_64 w_84 w_1423 hdV_X11_wokenBy (Rc.s rfl ce_39) (by decide) (by decide) (by decide) (Nat.le_of_ble_eq_true rfl) dX11_wokenAt_15 rfl ?_
    refine r_iconst (v := -1) (pc := 18) X dX11_wokenAt_18 (by decide) ?_
    refine b_icmp_ne (tgt := 26) (pc := 19) X dX11_wokenAt_19 (by decide) hf (fun hf => ?_) (fun hf => ?_)
    · refine r_iconst (v := 2) (pc := 22) X dX11_wokenAt_22 (by decide) ?_
      refine r_goto (tgt := 27) (pc := 23) X dX11_wokenAt_23 (by decide) ?_
      refine bnd hf (fun x5 h5 hf => ?_)
      refine r_callVi (As := [.int 2]) (st := []) (pc := 27) X (c_f_M_goes h5) rfl w_1260 w_1262 w_35 w_84 w_1263 hdV_X11_goes (Rc.s rfl ce_39) (by decide) (by decide) (by decide) (Nat.le_of_ble_eq_true rfl) dX11_wokenAt_27 rfl ?_
      refine b_if_eq (tgt := 49) (pc := 30) X dX11_wokenAt_30 (by decide) hf (fun hf => ?_) (fun hf => ?_)
      · refine r_iconst (v := 0) (pc := 49) X dX11_wokenAt_49 (by decide) ?_
        exact e_iret (pc := 50) X hr hf (Nat.le_refl _) (Nat.le_refl _) dX11_wokenAt_50
      · refine r_aload_n (x := some 39) (pc := 33) X dX11_wokenAt_33 0 rfl ?_
        refine r_get (j := 51) (pc := 34) X ce_39 rfl inT11 (by decide) w_1131 rfl dX11_wokenAt_34 ?_
        refine r_iload_n (pc := 37) X dX11_wokenAt_37 1 rfl ?_
        refine b_iald (pc := 38) X ce_68 dX11_wokenAt_38 hf (fun j6 hf => ?_)
        refine r_bipush (v := 16) (pc := 39) X dX11_wokenAt_39 (by decide) ?_
        refine r_ishr (pc := 41) X dX11_wokenAt_41 ?_
        refine r_sipush (v := 1023) (pc := 42) X dX11_wokenAt_42 (by decide) ?_
        refine r_iand (pc := 45) X dX11_wokenAt_45 ?_
        refine r_goto (tgt := 50) (pc := 46) X dX11_wokenAt_46 (by decide) ?_
        exact e_iret (pc := 50) X hr hf (Nat.le_refl _) (Nat.le_refl _) dX11_wokenAt_50
    · refine r_iconst (v := 0) (pc := 26) X dX11_wokenAt_26 (by decide) ?_
      refine bnd hf (fun x7 h7 hf => ?_)
      refine r_callVi (As := [.int 0]) (st := []) (pc := 27) X (c_f_M_goes h7) rfl w_1260 w_1262 w_35 w_84 w_1263 hdV_X11_goes (Rc.s rfl ce_39) (by decide) (by decide) (by decide) (Nat.le_of_ble_eq_true rfl) dX11_wokenAt_27 rfl ?_
      refine b_if_eq (tgt := 49) (pc := 30) X dX11_wokenAt_30 (by decide) hf (fun hf => ?_) (fun hf => ?_)
      · refine r_iconst (v := 0) (pc := 49) X dX11_wokenAt_49 (by decide) ?_
        exact e_iret (pc := 50) X hr hf (Nat.le_refl _) (Nat.le_refl _) dX11_wokenAt_50
      · refine r_aload_n (x := some 39) (pc := 33) X dX11_wokenAt_33 0 rfl ?_
        refine r_get (j := 51) (pc := 34) X ce_39 rfl inT11 (by decide) w_1131 rfl dX11_wokenAt_34 ?_
        refine r_iload_n (pc := 37) X dX11_wokenAt_37 1 rfl ?_
        refine b_iald (pc := 38) X ce_68 dX11_wokenAt_38 hf (fun j8 hf => ?_)
        refine r_bipush (v := 16) (pc := 39) X dX11_wokenAt_39 (by decide) ?_
        refine r_ishr (pc := 41) X dX11_wokenAt_41 ?_
        refine r_sipush (v := 1023) (pc := 42) X dX11_wokenAt_42 (by decide) ?_
        refine r_iand (pc := 45) X dX11_wokenAt_45 ?_
        refine r_goto (tgt := 50) (pc := 46) X dX11_wokenAt_46 (by decide) ?_
        exact e_iret (pc := 50) X hr hf (Nat.le_refl _) (Nat.le_refl _) dX11_wokenAt_50
/-! f_M_answer -/
theorem dX11_answer_0 : decode cX11_answer 0 = .ok (.aload_n 0, 1) := by decide +kernel
theorem dX11_answer_1 : decode cX11_answer 1 = .ok (.aload_n 0, 1) := by decide +kernel
theorem dX11_answer_2 : decode cX11_answer 2 = .ok (.iload_n 1, 1) := by decide +kernel
theorem dX11_answer_3 : decode cX11_answer 3 = .ok (.invokevirtual 333, 3) := by decide +kernel
theorem dX11_answer_6 : decode cX11_answer 6 = .ok (.ifCond .ne 7, 3) := by decide +kernel
theorem dX11_answer_9 : decode cX11_answer 9 = .ok (.iconst 1, 1) := by decide +kernel
theorem dX11_answer_10 : decode cX11_answer 10 = .ok (.goto 30, 3) := by decide +kernel
theorem dX11_answer_13 : decode cX11_answer 13 = .ok (.aload_n 0, 1) := by decide +kernel
theorem dX11_answer_14 : decode cX11_answer 14 = .ok (.iload_n 1, 1) := by decide +kernel
theorem dX11_answer_15 : decode cX11_answer 15 = .ok (.invokevirtual 303, 3) := by decide +kernel
theorem dX11_answer_18 : decode cX11_answer 18 = .ok (.iconst (-1), 1) := by decide +kernel
theorem dX11_answer_19 : decode cX11_answer 19 = .ok (.if_icmp .eq 16, 3) := by decide +kernel
theorem dX11_answer_22 : decode cX11_answer 22 = .ok (.aload_n 0, 1) := by decide +kernel
theorem dX11_answer_23 : decode cX11_answer 23 = .ok (.getfield 96, 3) := by decide +kernel
theorem dX11_answer_26 : decode cX11_answer 26 = .ok (.iload_n 1, 1) := by decide +kernel
theorem dX11_answer_27 : decode cX11_answer 27 = .ok (.iaload, 1) := by decide +kernel
theorem dX11_answer_28 : decode cX11_answer 28 = .ok (.bipush 26, 2) := by decide +kernel
theorem dX11_answer_30 : decode cX11_answer 30 = .ok (.ishr, 1) := by decide +kernel
theorem dX11_answer_31 : decode cX11_answer 31 = .ok (.iconst 1, 1) := by decide +kernel
theorem dX11_answer_32 : decode cX11_answer 32 = .ok (.if_icmp .ne 7, 3) := by decide +kernel
theorem dX11_answer_35 : decode cX11_answer 35 = .ok (.iconst 2, 1) := by decide +kernel
theorem dX11_answer_36 : decode cX11_answer 36 = .ok (.goto 4, 3) := by decide +kernel
theorem dX11_answer_39 : decode cX11_answer 39 = .ok (.iconst 0, 1) := by decide +kernel
theorem dX11_answer_40 : decode cX11_answer 40 = .ok (.invokevirtual 263, 3) := by decide +kernel
theorem dX11_answer_43 : decode cX11_answer 43 = .ok (.ifCond .ne 5, 3) := by decide +kernel
theorem dX11_answer_46 : decode cX11_answer 46 = .ok (.iconst 0, 1) := by decide +kernel
theorem dX11_answer_47 : decode cX11_answer 47 = .ok (.ireturn, 1) := by decide +kernel
theorem dX11_answer_48 : decode cX11_answer 48 = .ok (.aload_n 0, 1) := by decide +kernel
theorem dX11_answer_49 : decode cX11_answer 49 = .ok (.getfield 96, 3) := by decide +kernel
theorem dX11_answer_52 : decode cX11_answer 52 = .ok (.iload_n 1, 1) := by decide +kernel
theorem dX11_answer_53 : decode cX11_answer 53 = .ok (.dup2, 1) := by decide +kernel
theorem dX11_answer_54 : decode cX11_answer 54 = .ok (.iaload, 1) := by decide +kernel
theorem dX11_answer_55 : decode cX11_answer 55 = .ok (.ldc_w 336, 3) := by decide +kernel
theorem dX11_answer_58 : decode cX11_answer 58 = .ok (.ior, 1) := by decide +kernel
theorem dX11_answer_59 : decode cX11_answer 59 = .ok (.iastore, 1) := by decide +kernel
theorem dX11_answer_60 : decode cX11_answer 60 = .ok (.aload_n 0, 1) := by decide +kernel
theorem dX11_answer_61 : decode cX11_answer 61 = .ok (.getfield 69, 3) := by decide +kernel
theorem dX11_answer_64 : decode cX11_answer 64 = .ok (.aload_n 0, 1) := by decide +kernel
theorem dX11_answer_65 : decode cX11_answer 65 = .ok (.getfield 96, 3) := by decide +kernel
theorem dX11_answer_68 : decode cX11_answer 68 = .ok (.iload_n 1, 1) := by decide +kernel
theorem dX11_answer_69 : decode cX11_answer 69 = .ok (.iaload, 1) := by decide +kernel
theorem dX11_answer_70 : decode cX11_answer 70 = .ok (.iconst 3, 1) := by decide +kernel
theorem dX11_answer_71 : decode cX11_answer 71 = .ok (.iand, 1) := by decide +kernel
theorem dX11_answer_72 : decode cX11_answer 72 = .ok (.iaload, 1) := by decide +kernel
theorem dX11_answer_73 : decode cX11_answer 73 = .ok (.istore_n 3, 1) := by decide +kernel
theorem dX11_answer_74 : decode cX11_answer 74 = .ok (.aload_n 0, 1) := by decide +kernel
theorem dX11_answer_75 : decode cX11_answer 75 = .ok (.getfield 96, 3) := by decide +kernel
theorem dX11_answer_78 : decode cX11_answer 78 = .ok (.iload_n 1, 1) := by decide +kernel
theorem dX11_answer_79 : decode cX11_answer 79 = .ok (.iaload, 1) := by decide +kernel
theorem dX11_answer_80 : decode cX11_answer 80 = .ok (.bipush 16, 2) := by decide +kernel
theorem dX11_answer_82 : decode cX11_answer 82 = .ok (.ishr, 1) := by decide +kernel
theorem dX11_answer_83 : decode cX11_answer 83 = .ok (.sipush 1023, 3) := by decide +kernel
theorem dX11_answer_86 : decode cX11_answer 86 = .ok (.iand, 1) := by decide +kernel
theorem dX11_answer_87 : decode cX11_answer 87 = .ok (.bipush 8, 2) := by decide +kernel
theorem dX11_answer_89 : decode cX11_answer 89 = .ok (.idiv, 1) := by decide +kernel
theorem dX11_answer_90 : decode cX11_answer 90 = .ok (.istore 4, 2) := by decide +kernel
theorem dX11_answer_92 : decode cX11_answer 92 = .ok (.iload_n 2, 1) := by decide +kernel
theorem dX11_answer_93 : decode cX11_answer 93 = .ok (.ifCond .eq 49, 3) := by decide +kernel
theorem dX11_answer_96 : decode cX11_answer 96 = .ok (.iload 4, 2) := by decide +kernel
theorem dX11_answer_98 : decode cX11_answer 98 = .ok (.invokestatic 294, 3) := by decide +kernel
theorem dX11_answer_101 : decode cX11_answer 101 = .ok (.ifCond .eq 41, 3) := by decide +kernel
theorem dX11_answer_104 : decode cX11_answer 104 = .ok (.aload_n 0, 1) := by decide +kernel
theorem dX11_answer_105 : decode cX11_answer 105 = .ok (.iload_n 1, 1) := by decide +kernel
theorem dX11_answer_106 : decode cX11_answer 106 = .ok (.invokevirtual 303, 3) := by decide +kernel
theorem dX11_answer_109 : decode cX11_answer 109 = .ok (.iload_n 3, 1) := by decide +kernel
theorem dX11_answer_110 : decode cX11_answer 110 = .ok (.if_icmp .eq 32, 3) := by decide +kernel
theorem dX11_answer_113 : decode cX11_answer 113 = .ok (.aload_n 0, 1) := by decide +kernel
theorem dX11_answer_114 : decode cX11_answer 114 = .ok (.getfield 99, 3) := by decide +kernel
theorem dX11_answer_117 : decode cX11_answer 117 = .ok (.aload_n 0, 1) := by decide +kernel
theorem dX11_answer_118 : decode cX11_answer 118 = .ok (.getfield 291, 3) := by decide +kernel
theorem dX11_answer_121 : decode cX11_answer 121 = .ok (.bipush 8, 2) := by decide +kernel
theorem dX11_answer_123 : decode cX11_answer 123 = .ok (.iload_n 3, 1) := by decide +kernel
theorem dX11_answer_124 : decode cX11_answer 124 = .ok (.imul, 1) := by decide +kernel
theorem dX11_answer_125 : decode cX11_answer 125 = .ok (.aload_n 0, 1) := by decide +kernel
theorem dX11_answer_126 : decode cX11_answer 126 = .ok (.iload_n 1, 1) := by decide +kernel
theorem dX11_answer_127 : decode cX11_answer 127 = .ok (.invokevirtual 303, 3) := by decide +kernel
theorem dX11_answer_130 : decode cX11_answer 130 = .ok (.iadd, 1) := by decide +kernel
theorem dX11_answer_131 : decode cX11_answer 131 = .ok (.iastore, 1) := by decide +kernel
theorem dX11_answer_132 : decode cX11_answer 132 = .ok (.aload_n 0, 1) := by decide +kernel
theorem dX11_answer_133 : decode cX11_answer 133 = .ok (.dup, 1) := by decide +kernel
theorem dX11_answer_134 : decode cX11_answer 134 = .ok (.getfield 291, 3) := by decide +kernel
theorem dX11_answer_137 : decode cX11_answer 137 = .ok (.iconst 1, 1) := by decide +kernel
theorem dX11_answer_138 : decode cX11_answer 138 = .ok (.iadd, 1) := by decide +kernel
theorem dX11_answer_139 : decode cX11_answer 139 = .ok (.putfield 291, 3) := by decide +kernel
theorem dX11_answer_142 : decode cX11_answer 142 = .ok (.aload_n 0, 1) := by decide +kernel
theorem dX11_answer_143 : decode cX11_answer 143 = .ok (.getfield 291, 3) := by decide +kernel
theorem dX11_answer_146 : decode cX11_answer 146 = .ok (.ireturn, 1) := by decide +kernel
def f_M_answer_b40 (F : Nat) (s : St) (l1 : Int32) (l2 : Int32) (t1 : Int32) : Option (Int32 × St) :=
  (f_M_goes F s t1).bind fun x2 => (if x2.1 = 0 then
    (some (0, x2.2))
  else
    ((ix 4000 l1).bind fun j3 => ((ix 4000 l1).bind fun j4 => (lt (sA x2.2 68 j4 ((gA x2.2 68 j3) ||| 67108864)) fun s5 => ((ix 4000 l1).bind fun j6 => ((ix 4 ((gA s5 68 j6) &&& 3)).bind fun j7 => ((ix 4000 l1).bind fun j8 => (if l2 = 0 then
      (some ((gI s5 2548), s5))
    else
      ((f_M_isNight F s5 ((((gA s5 68 j8) >>> ((16 : Int32) &&& 31)) &&& 1023) / 8)).bind fun x9 => (if x9.1 = 0 then
        (some ((gI x9.2 2548), x9.2))
      else
        ((f_M_wokenBy F x9.2 l1).bind fun x10 => (if x10.1 = (gA s5 59 j7) then
          (some ((gI x10.2 2548), x10.2))
        else
          ((f_M_wokenBy F x10.2 l1).bind fun x11 => ((ix 4000 (gI x10.2 2548)).bind fun j12 => (lt (sA x11.2 69 j12 (((8 : Int32) * (gA s5 59 j7)) + x11.1)) fun s13 => (lt (sI s13 2548 ((gI s13 2548) + 1)) fun s14 => (some ((gI s14 2548), s14))))))))))))))))))
def f_M_answer (F : Nat) (s : St) (p1 : Int32) (p2 : Int32) : Option (Int32 × St) :=
  (f_M_isAlarm F s p1).bind fun x1 => (if x1.1 = 0 then
    (f_M_answer_b40 F x1.2 p1 p2 1)
  else
    ((f_M_wokenBy F x1.2 p1).bind fun x15 => (if x15.1 = (-1) then
      (f_M_answer_b40 F x15.2 p1 p2 2)
    else
      ((ix 4000 p1).bind fun j16 => (if ((gA x15.2 68 j16) >>> ((26 : Int32) &&& 31)) = 1 then
        (f_M_answer_b40 F x15.2 p1 p2 2)
      else
        (f_M_answer_b40 F x15.2 p1 p2 0))))))
set_option maxHeartbeats 1000000 in
theorem c_f_M_answer_b40 {F : Nat} {Γ : Ga} {D : DD} {B : Nat} {r : Int32} {s' : St} (X : Cx Γ RX11 cX11_answer 5 D B { frames := 2, cells := 0, slots := 0, locals := 43 }) (hr : (Gme Γ).sig.returnType = (some .int)) {s : St} {l1 : Int32} {l2 : Int32} {t1 : Int32} (hf : f_M_answer_b40 F s l1 l2 t1 = some (r, s')) : V Γ D B true 5 (QM Γ D B true s' (some (.int r)) 0 0) 0 0 s 40 [(0, .ref (B + 39)), (1, .int l1), (2, .int l2)] [.int t1, .ref (B + 39)] := by
  unfold f_M_answer_b40 at hf
  refine bnd hf (fun x2 h2 hf => ?_)
  refine r_callVi (As := [.int t1]) (st := []) (pc := 40) X (c_f_M_goes h2) rfl w_1260 w_1262 w_35 w_84 w_1263 hdV_X11_goes (Rc.s rfl ce_39) (by decide) (by decide) (by decide) (Nat.le_of_ble_eq_true rfl) dX11_answer_40 rfl ?_
  refine b_if_ne (tgt := 48) (pc := 43) X dX11_answer_43 (by decide) hf (fun hf => ?_) (fun hf => ?_)
  · refine r_iconst (v := 0) (pc := 46) X dX11_answer_46 (by decide) ?_
    exact e_iret (pc := 47) X hr hf (Nat.le_refl _) (Nat.le_refl _) dX11_answer_47
  · refine r_aload_n (x := some 39) (pc := 48) X dX11_answer_48 0 rfl ?_
    refine r_get (j := 51) (pc := 49) X ce_39 rfl inT11 (by decide) w_1131 rfl dX11_answer_49 ?_
    refine r_iload_n (pc := 52) X dX11_answer_52 1 rfl ?_
    refine r_dup2 (pc := 53) X dX11_answer_53 rfl rfl ?_
    refine b_iald (pc := 54) X ce_68 dX11_answer_54 hf (fun j3 hf => ?_)
    refine r_ldcw (v := 67108864) (pc := 55) X w_1544 dX11_answer_55 ?_
    refine r_ior (pc := 58) X dX11_answer_58 ?_
    refine b_iast (pc := 59) X ce_68 (fun _ => ca_68 _ _) dX11_answer_59 hf (fun j4 s5 hf => ?_)
    refine r_aload_n (x := some 39) (pc := 60) X dX11_answer_60 0 rfl ?_
    refine r_get (j := 41) (pc := 61) X ce_39 rfl inT11 (by decide) w_1121 rfl dX11_answer_61 ?_
    refine r_aload_n (x := some 39) (pc := 64) X dX11_answer_64 0 rfl ?_
    refine r_get (j := 51) (pc := 65) X ce_39 rfl inT11 (by decide) w_1131 rfl dX11_answer_65 ?_
    refine r_iload_n (pc := 68) X dX11_answer_68 1 rfl ?_
    refine b_iald (pc := 69) X ce_68 dX11_answer_69 hf (fun j6 hf => ?_)
    refine r_iconst (v := 3) (pc := 70) X dX11_answer_70 (by decide) ?_
    refine r_iand (pc := 71) X dX11_answer_71 ?_
    refine b_iald (pc := 72) X ce_59 dX11_answer_72 hf (fun j7 hf => ?_)
    refine r_istore_n (pc := 73) (lv' := [(0, .ref (B + 39)), (1, .int l1), (2, .int l2), (3, .int (gA s5 59 j7))]) X dX11_answer_73 (by decide) [1, 2, 3, 0] rfl ?_
    refine r_aload_n (x := some 39) (pc := 74) X dX11_answer_74 0 rfl ?_
    refine r_get (j := 51) (pc := 75) X ce_39 rfl inT11 (by decide) w_1131 rfl dX11_answer_75 ?_
    refine r_iload_n (pc := 78) X dX11_answer_78 1 rfl ?_
    refine b_iald (pc := 79) X ce_68 dX11_answer_79 hf (fun j8 hf => ?_)
    refine r_bipush (v := 16) (pc := 80) X dX11_answer_80 (by decide) ?_
    refine r_ishr (pc := 82) X dX11_answer_82 ?_
    refine r_sipush (v := 1023) (pc := 83) X dX11_answer_83 (by decide) ?_
    refine r_iand (pc := 86) X dX11_answer_86 ?_
    refine r_bipush (v := 8) (pc := 87) X dX11_answer_87 (by decide) ?_
    refine r_idiv (pc := 89) X dX11_answer_89 (by decide) ?_
    refine r_istore (pc := 90) (lv' := [(0, .ref (B + 39)), (1, .int l1), (2, .int l2), (3, .int (gA s5 59 j7)), (4, .int ((((gA s5 68 j8) >>> ((16 : Int32) &&& 31)) &&& 1023) / 8))]) X dX11_answer_90 (by decide) [1, 2, 3, 4, 0] rfl ?_
    refine r_iload_n (pc := 92) X dX11_answer_92 2 rfl ?_
    refine b_if_eq (tgt := 142) (pc := 93) X dX11_answer_93 (by decide) hf (fun hf => ?_) (fun hf => ?_)
    · refine r_aload_n (x := some 39) (pc := 142) X dX11_answer_142 0 rfl ?_
      refine r_get (j := 52) (pc := 143) X ce_39 rfl inT11 (by decide) w_1132 rfl dX11_answer_143 ?_
      exact e_iret (pc := 146) X hr hf (Nat.le_refl _) (Nat.le_refl _) dX11_answer_146
    · refine r_iload (pc := 96) X dX11_answer_96 4 rfl ?_
      refine bnd hf (fun x9 h9 hf => ?_)
      refine r_callSi (As := [.int ((((gA s5 68 j8) >>> ((16 : Int32) &&& 31)) &&& 1023) / 8)]) (st := []) (pc := 98) X (c_f_M_isNight h9) rfl w_1417 w_1418 w_84 w_1419 hdS_X11_isNight (by decide) (by decide) (by decide) (Nat.le_of_ble_eq_true rfl) dX11_answer_98 rfl ?_
      refine b_if_eq (tgt := 142) (pc := 101) X dX11_answer_101 (by decide) hf (fun hf => ?_) (fun hf => ?_)
      · refine r_aload_n (x := some 39) (pc := 142) X dX11_answer_142 0 rfl ?_
        refine r_get (j := 52) (pc := 143) X ce_39 rfl inT11 (by decide) w_1132 rfl dX11_answer_143 ?_
        exact e_iret (pc := 146) X hr hf (Nat.le_refl _) (Nat.le_refl _) dX11_answer_146
      · refine r_aload_n (x := some 39) (pc := 104) X dX11_answer_104 0 rfl ?_
        refine r_iload_n (pc := 105) X dX11_answer_105 1 rfl ?_
        refine bnd hf (fun x10 h10 hf => ?_)
        refine r_callVi (As := [.int l1]) (st := []) (pc := 106) X (c_f_M_wokenBy h10) rfl w_1420 w_1422 w_64 w_84 w_1423 hdV_X11_wokenBy (Rc.s rfl ce_39) (by decide) (by decide) (by decide) (Nat.le_of_ble_eq_true rfl) dX11_answer_106 rfl ?_
        refine r_iload_n (pc := 109) X dX11_answer_109 3 rfl ?_
        refine b_icmp_eq (tgt := 142) (pc := 110) X dX11_answer_110 (by decide) hf (fun hf => ?_) (fun hf => ?_)
        · refine r_aload_n (x := some 39) (pc := 142) X dX11_answer_142 0 rfl ?_
          refine r_get (j := 52) (pc := 143) X ce_39 rfl inT11 (by decide) w_1132 rfl dX11_answer_143 ?_
          exact e_iret (pc := 146) X hr hf (Nat.le_refl _) (Nat.le_refl _) dX11_answer_146
        · refine r_aload_n (x := some 39) (pc := 113) X dX11_answer_113 0 rfl ?_
          refine r_get (j := 53) (pc := 114) X ce_39 rfl inT11 (by decide) w_1133 rfl dX11_answer_114 ?_
          refine r_aload_n (x := some 39) (pc := 117) X dX11_answer_117 0 rfl ?_
          refine r_get (j := 52) (pc := 118) X ce_39 rfl inT11 (by decide) w_1132 rfl dX11_answer_118 ?_
          refine r_bipush (v := 8) (pc := 121) X dX11_answer_121 (by decide) ?_
          refine r_iload_n (pc := 123) X dX11_answer_123 3 rfl ?_
          refine r_imul (pc := 124) X dX11_answer_124 ?_
          refine r_aload_n (x := some 39) (pc := 125) X dX11_answer_125 0 rfl ?_
          refine r_iload_n (pc := 126) X dX11_answer_126 1 rfl ?_
          refine bnd hf (fun x11 h11 hf => ?_)
          refine r_callVi (As := [.int l1]) (st := [.int ((8 : Int32) * (gA s5 59 j7)), .int (gI x10.2 2548), .ref (B + 69)]) (pc := 127) X (c_f_M_wokenBy h11) rfl w_1420 w_1422 w_64 w_84 w_1423 hdV_X11_wokenBy (Rc.s rfl ce_39) (by decide) (by decide) (by decide) (Nat.le_of_ble_eq_true rfl) dX11_answer_127 rfl ?_
          refine r_iadd (pc := 130) X dX11_answer_130 ?_
          refine b_iast (pc := 131) X ce_69 (fun _ => ca_69 _ _) dX11_answer_131 hf (fun j12 s13 hf => ?_)
          refine r_aload_n (x := some 39) (pc := 132) X dX11_answer_132 0 rfl ?_
          refine r_dup (pc := 133) X dX11_answer_133 rfl ?_
          refine r_get (j := 52) (pc := 134) X ce_39 rfl inT11 (by decide) w_1132 rfl dX11_answer_134 ?_
          refine r_iconst (v := 1) (pc := 137) X dX11_answer_137 (by decide) ?_
          refine r_iadd (pc := 138) X dX11_answer_138 ?_
          refine b_put (j := 52) (pc := 139) X ce_39 rfl inT11 tyX11 tyX11_ok nmX11 (by decide) w_1132 rfl (tyX11_ok 52 (by decide)) rfl rfl (Nat.le_of_ble_eq_true rfl) (cp_2548 _) rfl rfl dX11_answer_139 hf (fun s14 hf => ?_)
          refine r_aload_n (x := some 39) (pc := 142) X dX11_answer_142 0 rfl ?_
          refine r_get (j := 52) (pc := 143) X ce_39 rfl inT11 (by decide) w_1132 rfl dX11_answer_143 ?_
          exact e_iret (pc := 146) X hr hf (Nat.le_refl _) (Nat.le_refl _) dX11_answer_146
set_option maxHeartbeats 1000000 in
theorem c_f_M_answer {F : Nat} {s : St} {p1 : Int32} {p2 : Int32} {r : Int32} {s' : St} (hf : f_M_answer F s p1 p2 = some (r, s')) : CC true yX11_answer (Cond.code yX11_answer cX11_answer 5 (some .int)) 2 43 (fun B => [.ref (B + 39), .int p1, .int p2]) s (fun B => (some (.int r))) s' 0 0 := by
  refine CC.of (fun B => [(0, .ref (B + 39)), (1, .int p1), (2, .int p2)]) (by decide +kernel) (fun _ => rfl) (fun _ => (by simp [lg_sl, rfB_cat, catI, catL, catR])) (fun Γ D B X hr hin => ?_)
  have X : Cx Γ RX11 cX11_answer 5 D B { frames := 2, cells := 0, slots := 0, locals := 43 } := X
  unfold f_M_answer at hf
  refine r_aload_n (x := some 39) (pc := 0) X dX11_answer_0 0 rfl ?_
  refine r_aload_n (x := some 39) (pc := 1) X dX11_answer_1 0 rfl ?_
  refine r_iload_n (pc := 2) X dX11_answer_2 1 rfl ?_
  refine bnd hf (fun x1 h1 hf => ?_)
  refine r_callVi (As := [.int p1]) (st := [.ref (B + 39)]) (pc := 3) X (c_f_M_isAlarm h1) rfl w_1528 w_1530 w_72 w_84 w_1531 hdV_X11_isAlarm (Rc.s rfl ce_39) (by decide) (by decide) (by decide) (Nat.le_of_ble_eq_true rfl) dX11_answer_3 rfl ?_
  refine b_if_ne (tgt := 13) (pc := 6) X dX11_answer_6 (by decide) hf (fun hf => ?_) (fun hf => ?_)
  · refine r_iconst (v := 1) (pc := 9) X dX11_answer_9 (by decide) ?_
    refine r_goto (tgt := 40) (pc := 10) X dX11_answer_10 (by decide) ?_
    exact c_f_M_answer_b40 X hr hf
  · refine r_aload_n (x := some 39) (pc := 13) X dX11_answer_13 0 rfl ?_
    refine r_iload_n (pc := 14) X dX11_answer_14 1 rfl ?_
    refine bnd hf (fun x15 h15 hf => ?_)
    refine r_callVi (As := [.int p1]) (st := [.ref (B + 39)]) (pc := 15) X (c_f_M_wokenBy h15) rfl w_1420 w_1422 w_64 w_84 w_1423 hdV_X11_wokenBy (Rc.s rfl ce_39) (by decide) (by decide) (by decide) (Nat.le_of_ble_eq_true rfl) dX11_answer_15 rfl ?_
    refine r_iconst (v := -1) (pc := 18) X dX11_answer_18 (by decide) ?_
    refine b_icmp_eq (tgt := 35) (pc := 19) X dX11_answer_19 (by decide) hf (fun hf => ?_) (fun hf => ?_)
    · refine r_iconst (v := 2) (pc := 35) X dX11_answer_35 (by decide) ?_
      refine r_goto (tgt := 40) (pc := 36) X dX11_answer_36 (by decide) ?_
      exact c_f_M_answer_b40 X hr hf
    · refine r_aload_n (x := some 39) (pc := 22) X dX11_answer_22 0 rfl ?_
      refine r_get (j := 51) (pc := 23) X ce_39 rfl inT11 (by decide) w_1131 rfl dX11_answer_23 ?_
      refine r_iload_n (pc := 26) X dX11_answer_26 1 rfl ?_
      refine b_iald (pc := 27) X ce_68 dX11_answer_27 hf (fun j16 hf => ?_)
      refine r_bipush (v := 26) (pc := 28) X dX11_answer_28 (by decide) ?_
      refine r_ishr (pc := 30) X dX11_answer_30 ?_
      refine r_iconst (v := 1) (pc := 31) X dX11_answer_31 (by decide) ?_
      refine b_icmp_ne (tgt := 39) (pc := 32) X dX11_answer_32 (by decide) hf (fun hf => ?_) (fun hf => ?_)
      · refine r_iconst (v := 2) (pc := 35) X dX11_answer_35 (by decide) ?_
        refine r_goto (tgt := 40) (pc := 36) X dX11_answer_36 (by decide) ?_
        exact c_f_M_answer_b40 X hr hf
      · refine r_iconst (v := 0) (pc := 39) X dX11_answer_39 (by decide) ?_
        exact c_f_M_answer_b40 X hr hf
/-! f_M_wouldRise -/
theorem dX11_wouldRise_0 : decode cX11_wouldRise 0 = .ok (.aload_n 0, 1) := by decide +kernel
theorem dX11_wouldRise_1 : decode cX11_wouldRise 1 = .ok (.aload_n 0, 1) := by decide +kernel
theorem dX11_wouldRise_2 : decode cX11_wouldRise 2 = .ok (.iload_n 1, 1) := by decide +kernel
theorem dX11_wouldRise_3 : decode cX11_wouldRise 3 = .ok (.invokevirtual 333, 3) := by decide +kernel
theorem dX11_wouldRise_6 : decode cX11_wouldRise 6 = .ok (.ifCond .eq 7, 3) := by decide +kernel
theorem dX11_wouldRise_9 : decode cX11_wouldRise 9 = .ok (.iconst 0, 1) := by decide +kernel
theorem dX11_wouldRise_10 : decode cX11_wouldRise 10 = .ok (.goto 4, 3) := by decide +kernel
theorem dX11_wouldRise_13 : decode cX11_wouldRise 13 = .ok (.iconst 1, 1) := by decide +kernel
theorem dX11_wouldRise_14 : decode cX11_wouldRise 14 = .ok (.invokevirtual 263, 3) := by decide +kernel
theorem dX11_wouldRise_17 : decode cX11_wouldRise 17 = .ok (.ifCond .ne 5, 3) := by decide +kernel
theorem dX11_wouldRise_20 : decode cX11_wouldRise 20 = .ok (.iconst 0, 1) := by decide +kernel
theorem dX11_wouldRise_21 : decode cX11_wouldRise 21 = .ok (.ireturn, 1) := by decide +kernel
theorem dX11_wouldRise_22 : decode cX11_wouldRise 22 = .ok (.aload_n 0, 1) := by decide +kernel
theorem dX11_wouldRise_23 : decode cX11_wouldRise 23 = .ok (.getfield 96, 3) := by decide +kernel
theorem dX11_wouldRise_26 : decode cX11_wouldRise 26 = .ok (.iload_n 1, 1) := by decide +kernel
theorem dX11_wouldRise_27 : decode cX11_wouldRise 27 = .ok (.iaload, 1) := by decide +kernel
theorem dX11_wouldRise_28 : decode cX11_wouldRise 28 = .ok (.iconst 3, 1) := by decide +kernel
theorem dX11_wouldRise_29 : decode cX11_wouldRise 29 = .ok (.iand, 1) := by decide +kernel
theorem dX11_wouldRise_30 : decode cX11_wouldRise 30 = .ok (.istore_n 2, 1) := by decide +kernel
theorem dX11_wouldRise_31 : decode cX11_wouldRise 31 = .ok (.aload_n 0, 1) := by decide +kernel
theorem dX11_wouldRise_32 : decode cX11_wouldRise 32 = .ok (.getfield 96, 3) := by decide +kernel
theorem dX11_wouldRise_35 : decode cX11_wouldRise 35 = .ok (.iload_n 1, 1) := by decide +kernel
theorem dX11_wouldRise_36 : decode cX11_wouldRise 36 = .ok (.iaload, 1) := by decide +kernel
theorem dX11_wouldRise_37 : decode cX11_wouldRise 37 = .ok (.iconst 2, 1) := by decide +kernel
theorem dX11_wouldRise_38 : decode cX11_wouldRise 38 = .ok (.ishr, 1) := by decide +kernel
theorem dX11_wouldRise_39 : decode cX11_wouldRise 39 = .ok (.sipush 1023, 3) := by decide +kernel
theorem dX11_wouldRise_42 : decode cX11_wouldRise 42 = .ok (.iand, 1) := by decide +kernel
theorem dX11_wouldRise_43 : decode cX11_wouldRise 43 = .ok (.istore_n 3, 1) := by decide +kernel
theorem dX11_wouldRise_44 : decode cX11_wouldRise 44 = .ok (.aload_n 0, 1) := by decide +kernel
theorem dX11_wouldRise_45 : decode cX11_wouldRise 45 = .ok (.iload_n 2, 1) := by decide +kernel
theorem dX11_wouldRise_46 : decode cX11_wouldRise 46 = .ok (.iload_n 3, 1) := by decide +kernel
theorem dX11_wouldRise_47 : decode cX11_wouldRise 47 = .ok (.aload_n 0, 1) := by decide +kernel
theorem dX11_wouldRise_48 : decode cX11_wouldRise 48 = .ok (.getfield 72, 3) := by decide +kernel
theorem dX11_wouldRise_51 : decode cX11_wouldRise 51 = .ok (.iload_n 2, 1) := by decide +kernel
theorem dX11_wouldRise_52 : decode cX11_wouldRise 52 = .ok (.iaload, 1) := by decide +kernel
theorem dX11_wouldRise_53 : decode cX11_wouldRise 53 = .ok (.isub, 1) := by decide +kernel
theorem dX11_wouldRise_54 : decode cX11_wouldRise 54 = .ok (.iconst 1, 1) := by decide +kernel
theorem dX11_wouldRise_55 : decode cX11_wouldRise 55 = .ok (.iadd, 1) := by decide +kernel
theorem dX11_wouldRise_56 : decode cX11_wouldRise 56 = .ok (.iload_n 3, 1) := by decide +kernel
theorem dX11_wouldRise_57 : decode cX11_wouldRise 57 = .ok (.invokevirtual 272, 3) := by decide +kernel
theorem dX11_wouldRise_60 : decode cX11_wouldRise 60 = .ok (.lconst 0, 1) := by decide +kernel
theorem dX11_wouldRise_61 : decode cX11_wouldRise 61 = .ok (.lcmp, 1) := by decide +kernel
theorem dX11_wouldRise_62 : decode cX11_wouldRise 62 = .ok (.ifCond .eq 7, 3) := by decide +kernel
theorem dX11_wouldRise_65 : decode cX11_wouldRise 65 = .ok (.iconst 1, 1) := by decide +kernel
theorem dX11_wouldRise_66 : decode cX11_wouldRise 66 = .ok (.goto 4, 3) := by decide +kernel
theorem dX11_wouldRise_69 : decode cX11_wouldRise 69 = .ok (.iconst 0, 1) := by decide +kernel
theorem dX11_wouldRise_70 : decode cX11_wouldRise 70 = .ok (.ireturn, 1) := by decide +kernel
def f_M_wouldRise_b14 (F : Nat) (s : St) (l1 : Int32) (t1 : Int32) : Option (Int32 × St) :=
  (f_M_goes F s t1).bind fun x2 => (if x2.1 = 0 then
    (some (0, x2.2))
  else
    ((ix 4000 l1).bind fun j3 => ((ix 4000 l1).bind fun j4 => ((ix 4 ((gA x2.2 68 j3) &&& 3)).bind fun j5 => ((f_M_runs F x2.2 ((gA x2.2 68 j3) &&& 3) (((((gA x2.2 68 j4) >>> ((2 : Int32) &&& 31)) &&& 1023) - (gA x2.2 60 j5)) + 1) (((gA x2.2 68 j4) >>> ((2 : Int32) &&& 31)) &&& 1023)).bind fun x6 => (if x6.1 = 0 then
      (some (0, x6.2))
    else
      (some (1, x6.2))))))))
def f_M_wouldRise (F : Nat) (s : St) (p1 : Int32) : Option (Int32 × St) :=
  (f_M_isAlarm F s p1).bind fun x1 => (if x1.1 = 0 then
    (f_M_wouldRise_b14 F x1.2 p1 1)
  else
    (f_M_wouldRise_b14 F x1.2 p1 0))
set_option maxHeartbeats 1000000 in
theorem c_f_M_wouldRise_b14 {F : Nat} {Γ : Ga} {D : DD} {B : Nat} {r : Int32} {s' : St} (X : Cx Γ RX11 cX11_wouldRise 4 D B { frames := 6, cells := 0, slots := 0, locals := 159 }) (hr : (Gme Γ).sig.returnType = (some .boolean)) {s : St} {l1 : Int32} {t1 : Int32} (hf : f_M_wouldRise_b14 F s l1 t1 = some (r, s')) : V Γ D B true 4 (QM Γ D B true s' (some (.int r)) 0 0) 0 0 s 14 [(0, .ref (B + 39)), (1, .int l1)] [.int t1, .ref (B + 39)] := by
  unfold f_M_wouldRise_b14 at hf
  refine bnd hf (fun x2 h2 hf => ?_)
  refine r_callVi (As := [.int t1]) (st := []) (pc := 14) X (c_f_M_goes h2) rfl w_1260 w_1262 w_35 w_84 w_1263 hdV_X11_goes (Rc.s rfl ce_39) (by decide) (by decide) (by decide) (Nat.le_of_ble_eq_true rfl) dX11_wouldRise_14 rfl ?_
  refine b_if_ne (tgt := 22) (pc := 17) X dX11_wouldRise_17 (by decide) hf (fun hf => ?_) (fun hf => ?_)
  · refine r_iconst (v := 0) (pc := 20) X dX11_wouldRise_20 (by decide) ?_
    exact e_zret (pc := 21) X hr (by decide) hf (Nat.le_refl _) (Nat.le_refl _) dX11_wouldRise_21
  · refine r_aload_n (x := some 39) (pc := 22) X dX11_wouldRise_22 0 rfl ?_
    refine r_get (j := 51) (pc := 23) X ce_39 rfl inT11 (by decide) w_1131 rfl dX11_wouldRise_23 ?_
    refine r_iload_n (pc := 26) X dX11_wouldRise_26 1 rfl ?_
    refine b_iald (pc := 27) X ce_68 dX11_wouldRise_27 hf (fun j3 hf => ?_)
    refine r_iconst (v := 3) (pc := 28) X dX11_wouldRise_28 (by decide) ?_
    refine r_iand (pc := 29) X dX11_wouldRise_29 ?_
    refine r_istore_n (pc := 30) (lv' := [(0, .ref (B + 39)), (1, .int l1), (2, .int ((gA x2.2 68 j3) &&& 3))]) X dX11_wouldRise_30 (by decide) [1, 2, 0] rfl ?_
    refine r_aload_n (x := some 39) (pc := 31) X dX11_wouldRise_31 0 rfl ?_
    refine r_get (j := 51) (pc := 32) X ce_39 rfl inT11 (by decide) w_1131 rfl dX11_wouldRise_32 ?_
    refine r_iload_n (pc := 35) X dX11_wouldRise_35 1 rfl ?_
    refine b_iald (pc := 36) X ce_68 dX11_wouldRise_36 hf (fun j4 hf => ?_)
    refine r_iconst (v := 2) (pc := 37) X dX11_wouldRise_37 (by decide) ?_
    refine r_ishr (pc := 38) X dX11_wouldRise_38 ?_
    refine r_sipush (v := 1023) (pc := 39) X dX11_wouldRise_39 (by decide) ?_
    refine r_iand (pc := 42) X dX11_wouldRise_42 ?_
    refine r_istore_n (pc := 43) (lv' := [(0, .ref (B + 39)), (2, .int ((gA x2.2 68 j3) &&& 3)), (3, .int (((gA x2.2 68 j4) >>> ((2 : Int32) &&& 31)) &&& 1023))]) X dX11_wouldRise_43 (by decide) [1, 3, 0] rfl ?_
    refine r_aload_n (x := some 39) (pc := 44) X dX11_wouldRise_44 0 rfl ?_
    refine r_iload_n (pc := 45) X dX11_wouldRise_45 1 rfl ?_
    refine r_iload_n (pc := 46) X dX11_wouldRise_46 2 rfl ?_
    refine r_aload_n (x := some 39) (pc := 47) X dX11_wouldRise_47 0 rfl ?_
    refine r_get (j := 42) (pc := 48) X ce_39 rfl inT11 (by decide) w_1122 rfl dX11_wouldRise_48 ?_
    refine r_iload_n (pc := 51) X dX11_wouldRise_51 1 rfl ?_
    refine b_iald (pc := 52) X ce_60 dX11_wouldRise_52 hf (fun j5 hf => ?_)
    refine r_isub (pc := 53) X dX11_wouldRise_53 ?_
    refine r_iconst (v := 1) (pc := 54) X dX11_wouldRise_54 (by decide) ?_
    refine r_iadd (pc := 55) X dX11_wouldRise_55 ?_
    refine r_iload_n (pc := 56) X dX11_wouldRise_56 2 rfl ?_
    refine bnd hf (fun x6 h6 hf => ?_)
    refine r_callVl (As := [.int ((gA x2.2 68 j3) &&& 3), .int (((((gA x2.2 68 j4) >>> ((2 : Int32) &&& 31)) &&& 1023) - (gA x2.2 60 j5)) + 1), .int (((gA x2.2 68 j4) >>> ((2 : Int32) &&& 31)) &&& 1023)]) (st := []) (pc := 57) X (c_f_M_runs h6) rfl w_1363 w_1365 w_54 w_84 w_1366 hdV_X11_runs (Rc.s rfl ce_39) (by decide) (by decide) (by decide) (Nat.le_of_ble_eq_true rfl) dX11_wouldRise_57 rfl ?_
    refine r_lconst (v := 0) (pc := 60) X dX11_wouldRise_60 (by decide) ?_
    refine b_lcmp_eq (tgt := 69) (pc := 61) X dX11_wouldRise_61 dX11_wouldRise_62 (by decide) hf (fun hf => ?_) (fun hf => ?_)
    · refine r_iconst (v := 0) (pc := 69) X dX11_wouldRise_69 (by decide) ?_
      exact e_zret (pc := 70) X hr (by decide) hf (Nat.le_refl _) (Nat.le_refl _) dX11_wouldRise_70
    · refine r_iconst (v := 1) (pc := 65) X dX11_wouldRise_65 (by decide) ?_
      refine r_goto (tgt := 70) (pc := 66) X dX11_wouldRise_66 (by decide) ?_
      exact e_zret (pc := 70) X hr (by decide) hf (Nat.le_refl _) (Nat.le_refl _) dX11_wouldRise_70
set_option maxHeartbeats 1000000 in
theorem c_f_M_wouldRise {F : Nat} {s : St} {p1 : Int32} {r : Int32} {s' : St} (hf : f_M_wouldRise F s p1 = some (r, s')) : CC true yX11_wouldRise (Cond.code yX11_wouldRise cX11_wouldRise 4 (some .boolean)) 6 159 (fun B => [.ref (B + 39), .int p1]) s (fun B => (some (.int r))) s' 0 0 := by
  refine CC.of (fun B => [(0, .ref (B + 39)), (1, .int p1)]) (by decide +kernel) (fun _ => rfl) (fun _ => (by simp [lg_sl, rfB_cat, catI, catL, catR])) (fun Γ D B X hr hin => ?_)
  have X : Cx Γ RX11 cX11_wouldRise 4 D B { frames := 6, cells := 0, slots := 0, locals := 159 } := X
  unfold f_M_wouldRise at hf
  refine r_aload_n (x := some 39) (pc := 0) X dX11_wouldRise_0 0 rfl ?_
  refine r_aload_n (x := some 39) (pc := 1) X dX11_wouldRise_1 0 rfl ?_
  refine r_iload_n (pc := 2) X dX11_wouldRise_2 1 rfl ?_
  refine bnd hf (fun x1 h1 hf => ?_)
  refine r_callVi (As := [.int p1]) (st := [.ref (B + 39)]) (pc := 3) X (c_f_M_isAlarm h1) rfl w_1528 w_1530 w_72 w_84 w_1531 hdV_X11_isAlarm (Rc.s rfl ce_39) (by decide) (by decide) (by decide) (Nat.le_of_ble_eq_true rfl) dX11_wouldRise_3 rfl ?_
  refine b_if_eq (tgt := 13) (pc := 6) X dX11_wouldRise_6 (by decide) hf (fun hf => ?_) (fun hf => ?_)
  · refine r_iconst (v := 1) (pc := 13) X dX11_wouldRise_13 (by decide) ?_
    exact c_f_M_wouldRise_b14 X hr hf
  · refine r_iconst (v := 0) (pc := 9) X dX11_wouldRise_9 (by decide) ?_
    refine r_goto (tgt := 14) (pc := 10) X dX11_wouldRise_10 (by decide) ?_
    exact c_f_M_wouldRise_b14 X hr hf
/-! f_Alarms_waits -/
theorem dX0_waits_0 : decode cX0_waits 0 = .ok (.iload_n 1, 1) := by decide +kernel
theorem dX0_waits_1 : decode cX0_waits 1 = .ok (.aload_n 0, 1) := by decide +kernel
theorem dX0_waits_2 : decode cX0_waits 2 = .ok (.getfield 32, 3) := by decide +kernel
theorem dX0_waits_5 : decode cX0_waits 5 = .ok (.if_icmp .lt 7, 3) := by decide +kernel
theorem dX0_waits_8 : decode cX0_waits 8 = .ok (.iconst 1, 1) := by decide +kernel
theorem dX0_waits_9 : decode cX0_waits 9 = .ok (.goto 4, 3) := by decide +kernel
theorem dX0_waits_12 : decode cX0_waits 12 = .ok (.iconst 0, 1) := by decide +kernel
theorem dX0_waits_13 : decode cX0_waits 13 = .ok (.ireturn, 1) := by decide +kernel
def f_Alarms_waits (F : Nat) (s : St) (p1 : Int32) : Option (Int32 × St) :=
  if p1 < (gI s 1158) then
    (some (0, s))
  else
    (some (1, s))
set_option maxHeartbeats 1000000 in
theorem c_f_Alarms_waits {F : Nat} {s : St} {p1 : Int32} {r : Int32} {s' : St} (hf : f_Alarms_waits F s p1 = some (r, s')) : CC true yX0_waits (Cond.code yX0_waits cX0_waits 2 (some .boolean)) 0 0 (fun B => [.ref (B + 18), .int p1]) s (fun B => (some (.int r))) s' 0 0 := by
  refine CC.of (fun B => [(0, .ref (B + 18)), (1, .int p1)]) (by decide +kernel) (fun _ => rfl) (fun _ => (by simp [lg_sl, rfB_cat, catI, catL, catR])) (fun Γ D B X hr hin => ?_)
  have X : Cx Γ RX0 cX0_waits 2 D B { frames := 0, cells := 0, slots := 0, locals := 0 } := X
  unfold f_Alarms_waits at hf
  refine r_iload_n (pc := 0) X dX0_waits_0 1 rfl ?_
  refine r_aload_n (x := some 18) (pc := 1) X dX0_waits_1 0 rfl ?_
  refine r_get (j := 6) (pc := 2) X ce_18 rfl inT0 (by decide) w_201 rfl dX0_waits_2 ?_
  refine b_icmp_lt (tgt := 12) (pc := 5) X dX0_waits_5 (by decide) hf (fun hf => ?_) (fun hf => ?_)
  · refine r_iconst (v := 0) (pc := 12) X dX0_waits_12 (by decide) ?_
    exact e_zret (pc := 13) X hr (by decide) hf (Nat.le_refl _) (Nat.le_refl _) dX0_waits_13
  · refine r_iconst (v := 1) (pc := 8) X dX0_waits_8 (by decide) ?_
    refine r_goto (tgt := 13) (pc := 9) X dX0_waits_9 (by decide) ?_
    exact e_zret (pc := 13) X hr (by decide) hf (Nat.le_refl _) (Nat.le_refl _) dX0_waits_13
/-! f_Alarms_add -/
theorem dX0_add_0 : decode cX0_add 0 = .ok (.aload_n 0, 1) := by decide +kernel
theorem dX0_add_1 : decode cX0_add 1 = .ok (.getfield 28, 3) := by decide +kernel
theorem dX0_add_4 : decode cX0_add 4 = .ok (.iconst 0, 1) := by decide +kernel
theorem dX0_add_5 : decode cX0_add 5 = .ok (.sipush 3999, 3) := by decide +kernel
theorem dX0_add_8 : decode cX0_add 8 = .ok (.invokestatic 35, 3) := by decide +kernel
theorem dX0_add_11 : decode cX0_add 11 = .ok (.ifCond .eq 33, 3) := by decide +kernel
theorem dX0_add_14 : decode cX0_add 14 = .ok (.aload_n 0, 1) := by decide +kernel
theorem dX0_add_15 : decode cX0_add 15 = .ok (.getfield 9, 3) := by decide +kernel
theorem dX0_add_18 : decode cX0_add 18 = .ok (.aload_n 0, 1) := by decide +kernel
theorem dX0_add_19 : decode cX0_add 19 = .ok (.getfield 28, 3) := by decide +kernel
theorem dX0_add_22 : decode cX0_add 22 = .ok (.iload_n 1, 1) := by decide +kernel
theorem dX0_add_23 : decode cX0_add 23 = .ok (.iastore, 1) := by decide +kernel
theorem dX0_add_24 : decode cX0_add 24 = .ok (.aload_n 0, 1) := by decide +kernel
theorem dX0_add_25 : decode cX0_add 25 = .ok (.getfield 15, 3) := by decide +kernel
theorem dX0_add_28 : decode cX0_add 28 = .ok (.aload_n 0, 1) := by decide +kernel
theorem dX0_add_29 : decode cX0_add 29 = .ok (.getfield 28, 3) := by decide +kernel
theorem dX0_add_32 : decode cX0_add 32 = .ok (.iload_n 2, 1) := by decide +kernel
theorem dX0_add_33 : decode cX0_add 33 = .ok (.iastore, 1) := by decide +kernel
theorem dX0_add_34 : decode cX0_add 34 = .ok (.aload_n 0, 1) := by decide +kernel
theorem dX0_add_35 : decode cX0_add 35 = .ok (.dup, 1) := by decide +kernel
theorem dX0_add_36 : decode cX0_add 36 = .ok (.getfield 28, 3) := by decide +kernel
theorem dX0_add_39 : decode cX0_add 39 = .ok (.iconst 1, 1) := by decide +kernel
theorem dX0_add_40 : decode cX0_add 40 = .ok (.iadd, 1) := by decide +kernel
theorem dX0_add_41 : decode cX0_add 41 = .ok (.putfield 28, 3) := by decide +kernel
theorem dX0_add_44 : decode cX0_add 44 = .ok (.return_, 1) := by decide +kernel
def f_Alarms_add (F : Nat) (s : St) (p1 : Int32) (p2 : Int32) : Option (St) :=
  (f_P_isIn F s (gI s 1157) 0 3999).bind fun x1 => (if x1.1 = 0 then
    (some x1.2)
  else
    ((ix 4000 (gI x1.2 1157)).bind fun j2 => (lt (sA x1.2 19 j2 p1) fun s3 => ((ix 4000 (gI s3 1157)).bind fun j4 => (lt (sA s3 20 j4 p2) fun s5 => (lt (sI s5 1157 ((gI s5 1157) + 1)) fun s6 => (some s6)))))))
set_option maxHeartbeats 1000000 in
theorem c_f_Alarms_add {F : Nat} {s : St} {p1 : Int32} {p2 : Int32} {s' : St} (hf : f_Alarms_add F s p1 p2 = some s') : CC true yX0_add (Cond.code yX0_add cX0_add 3 none) 1 22 (fun B => [.ref (B + 18), .int p1, .int p2]) s (fun B => none) s' 0 0 := by
  refine CC.of (fun B => [(0, .ref (B + 18)), (1, .int p1), (2, .int p2)]) (by decide +kernel) (fun _ => rfl) (fun _ => (by simp [lg_sl, rfB_cat, catI, catL, catR])) (fun Γ D B X hr hin => ?_)
  have X : Cx Γ RX0 cX0_add 3 D B { frames := 1, cells := 0, slots := 0, locals := 22 } := X
  unfold f_Alarms_add at hf
  refine r_aload_n (x := some 18) (pc := 0) X dX0_add_0 0 rfl ?_
  refine r_get (j := 5) (pc := 1) X ce_18 rfl inT0 (by decide) w_199 rfl dX0_add_1 ?_
  refine r_iconst (v := 0) (pc := 4) X dX0_add_4 (by decide) ?_
  refine r_sipush (v := 3999) (pc := 5) X dX0_add_5 (by decide) ?_
  refine bnd hf (fun x1 h1 hf => ?_)
  refine r_callSNi (As := [.int (gI s 1157), .int 0, .int 3999]) (st := []) (pc := 8) X (c_f_P_isIn h1) rfl wn_793 w_474 w_74 w_475 hdS_X10_isIn (by decide) (by decide) (by decide) (Nat.le_of_ble_eq_true rfl) dX0_add_8 rfl ?_
  refine b_if_eq (tgt := 44) (pc := 11) X dX0_add_11 (by decide) hf (fun hf => ?_) (fun hf => ?_)
  · exact e_vret (pc := 44) X hr hf (Nat.le_refl _) (Nat.le_refl _) dX0_add_44
  · refine r_aload_n (x := some 18) (pc := 14) X dX0_add_14 0 rfl ?_
    refine r_get (j := 0) (pc := 15) X ce_18 rfl inT0 (by decide) w_189 rfl dX0_add_15 ?_
    refine r_aload_n (x := some 18) (pc := 18) X dX0_add_18 0 rfl ?_
    refine r_get (j := 5) (pc := 19) X ce_18 rfl inT0 (by decide) w_199 rfl dX0_add_19 ?_
    refine r_iload_n (pc := 22) X dX0_add_22 1 rfl ?_
    refine b_iast (pc := 23) X ce_19 (fun _ => ca_19 _ _) dX0_add_23 hf (fun j2 s3 hf => ?_)
    refine r_aload_n (x := some 18) (pc := 24) X dX0_add_24 0 rfl ?_
    refine r_get (j := 1) (pc := 25) X ce_18 rfl inT0 (by decide) w_191 rfl dX0_add_25 ?_
    refine r_aload_n (x := some 18) (pc := 28) X dX0_add_28 0 rfl ?_
    refine r_get (j := 5) (pc := 29) X ce_18 rfl inT0 (by decide) w_199 rfl dX0_add_29 ?_
    refine r_iload_n (pc := 32) X dX0_add_32 2 rfl ?_
    refine b_iast (pc := 33) X ce_20 (fun _ => ca_20 _ _) dX0_add_33 hf (fun j4 s5 hf => ?_)
    refine r_aload_n (x := some 18) (pc := 34) X dX0_add_34 0 rfl ?_
    refine r_dup (pc := 35) X dX0_add_35 rfl ?_
    refine r_get (j := 5) (pc := 36) X ce_18 rfl inT0 (by decide) w_199 rfl dX0_add_36 ?_
    refine r_iconst (v := 1) (pc := 39) X dX0_add_39 (by decide) ?_
    refine r_iadd (pc := 40) X dX0_add_40 ?_
    refine b_put (j := 5) (pc := 41) X ce_18 rfl inT0 tyX0 tyX0_ok nmX0 (by decide) w_199 rfl (tyX0_ok 5 (by decide)) rfl rfl (Nat.le_of_ble_eq_true rfl) (cp_1157 _) rfl rfl dX0_add_41 hf (fun s6 hf => ?_)
    exact e_vret (pc := 44) X hr hf (Nat.le_refl _) (Nat.le_refl _) dX0_add_44
/-! f_Coder_rankOf -/
theorem dX1_rankOf_0 : decode cX1_rankOf 0 = .ok (.iload_n 0, 1) := by decide +kernel
theorem dX1_rankOf_1 : decode cX1_rankOf 1 = .ok (.lookupswitch 115 #[(33, 103), (38, 101), (42, 109), (43, 107), (45, 107), (47, 109), (60, 105), (61, 105), (62, 105), (124, 99), (126, 112)], 99) := by decide +kernel
theorem dX1_rankOf_100 : decode cX1_rankOf 100 = .ok (.iconst 1, 1) := by decide +kernel
theorem dX1_rankOf_101 : decode cX1_rankOf 101 = .ok (.ireturn, 1) := by decide +kernel
theorem dX1_rankOf_102 : decode cX1_rankOf 102 = .ok (.iconst 2, 1) := by decide +kernel
theorem dX1_rankOf_103 : decode cX1_rankOf 103 = .ok (.ireturn, 1) := by decide +kernel
theorem dX1_rankOf_104 : decode cX1_rankOf 104 = .ok (.iconst 3, 1) := by decide +kernel
theorem dX1_rankOf_105 : decode cX1_rankOf 105 = .ok (.ireturn, 1) := by decide +kernel
theorem dX1_rankOf_106 : decode cX1_rankOf 106 = .ok (.iconst 4, 1) := by decide +kernel
theorem dX1_rankOf_107 : decode cX1_rankOf 107 = .ok (.ireturn, 1) := by decide +kernel
theorem dX1_rankOf_108 : decode cX1_rankOf 108 = .ok (.iconst 5, 1) := by decide +kernel
theorem dX1_rankOf_109 : decode cX1_rankOf 109 = .ok (.ireturn, 1) := by decide +kernel
theorem dX1_rankOf_110 : decode cX1_rankOf 110 = .ok (.bipush 6, 2) := by decide +kernel
theorem dX1_rankOf_112 : decode cX1_rankOf 112 = .ok (.ireturn, 1) := by decide +kernel
theorem dX1_rankOf_113 : decode cX1_rankOf 113 = .ok (.bipush 7, 2) := by decide +kernel
theorem dX1_rankOf_115 : decode cX1_rankOf 115 = .ok (.ireturn, 1) := by decide +kernel
theorem dX1_rankOf_116 : decode cX1_rankOf 116 = .ok (.iconst 0, 1) := by decide +kernel
theorem dX1_rankOf_117 : decode cX1_rankOf 117 = .ok (.ireturn, 1) := by decide +kernel
def f_Coder_rankOf (F : Nat) (s : St) (p0 : Int32) : Option (Int32 × St) :=
  if p0 = 33 then
    (some (3, s))
  else if p0 = 38 then
    (some (2, s))
  else if p0 = 42 then
    (some (6, s))
  else if p0 = 43 then
    (some (5, s))
  else if p0 = 45 then
    (some (5, s))
  else if p0 = 47 then
    (some (6, s))
  else if p0 = 60 then
    (some (4, s))
  else if p0 = 61 then
    (some (4, s))
  else if p0 = 62 then
    (some (4, s))
  else if p0 = 124 then
    (some (1, s))
  else if p0 = 126 then
    (some (7, s))
  else 
    (some (0, s))
set_option maxHeartbeats 1000000 in
theorem c_f_Coder_rankOf {F : Nat} {s : St} {p0 : Int32} {r : Int32} {s' : St} (hf : f_Coder_rankOf F s p0 = some (r, s')) : CC true yX1_rankOf (Cond.code yX1_rankOf cX1_rankOf 1 (some .int)) 0 0 (fun B => [.int p0]) s (fun B => (some (.int r))) s' 0 0 := by
  refine CC.of (fun B => [(0, .int p0)]) (by decide +kernel) (fun _ => rfl) (fun _ => (by simp [lg_sl, rfB_cat, catI, catL, catR])) (fun Γ D B X hr hin => ?_)
  have X : Cx Γ RX1 cX1_rankOf 1 D B { frames := 0, cells := 0, slots := 0, locals := 0 } := X
  unfold f_Coder_rankOf at hf
  refine r_iload_n (pc := 0) X dX1_rankOf_0 0 rfl ?_
  refine sw hf (fun e0 hf => ?_) (fun e0 hf => ?_)
  · refine r_lookup (tgt := 104) (pc := 1) X dX1_rankOf_1 (by decide) (by rw [e0] <;> rfl) (by decide) ?_
    refine r_iconst (v := 3) (pc := 104) X dX1_rankOf_104 (by decide) ?_
    exact e_iret (pc := 105) X hr hf (Nat.le_refl _) (Nat.le_refl _) dX1_rankOf_105
  refine sw hf (fun e1 hf => ?_) (fun e1 hf => ?_)
  · refine r_lookup (tgt := 102) (pc := 1) X dX1_rankOf_1 (by decide) (by rw [e1] <;> rfl) (by decide) ?_
    refine r_iconst (v := 2) (pc := 102) X dX1_rankOf_102 (by decide) ?_
    exact e_iret (pc := 103) X hr hf (Nat.le_refl _) (Nat.le_refl _) dX1_rankOf_103
  refine sw hf (fun e2 hf => ?_) (fun e2 hf => ?_)
  · refine r_lookup (tgt := 110) (pc := 1) X dX1_rankOf_1 (by decide) (by rw [e2] <;> rfl) (by decide) ?_
    refine r_bipush (v := 6) (pc := 110) X dX1_rankOf_110 (by decide) ?_
    exact e_iret (pc := 112) X hr hf (Nat.le_refl _) (Nat.le_refl _) dX1_rankOf_112
  refine sw hf (fun e3 hf => ?_) (fun e3 hf => ?_)
  · refine r_lookup (tgt := 108) (pc := 1) X dX1_rankOf_1 (by decide) (by rw [e3] <;> rfl) (by decide) ?_
    refine r_iconst (v := 5) (pc := 108) X dX1_rankOf_108 (by decide) ?_
    exact e_iret (pc := 109) X hr hf (Nat.le_refl _) (Nat.le_refl _) dX1_rankOf_109
  refine sw hf (fun e4 hf => ?_) (fun e4 hf => ?_)
  · refine r_lookup (tgt := 108) (pc := 1) X dX1_rankOf_1 (by decide) (by rw [e4] <;> rfl) (by decide) ?_
    refine r_iconst (v := 5) (pc := 108) X dX1_rankOf_108 (by decide) ?_
    exact e_iret (pc := 109) X hr hf (Nat.le_refl _) (Nat.le_refl _) dX1_rankOf_109
  refine sw hf (fun e5 hf => ?_) (fun e5 hf => ?_)
  · refine r_lookup (tgt := 110) (pc := 1) X dX1_rankOf_1 (by decide) (by rw [e5] <;> rfl) (by decide) ?_
    refine r_bipush (v := 6) (pc := 110) X dX1_rankOf_110 (by decide) ?_
    exact e_iret (pc := 112) X hr hf (Nat.le_refl _) (Nat.le_refl _) dX1_rankOf_112
  refine sw hf (fun e6 hf => ?_) (fun e6 hf => ?_)
  · refine r_lookup (tgt := 106) (pc := 1) X dX1_rankOf_1 (by decide) (by rw [e6] <;> rfl) (by decide) ?_
    refine r_iconst (v := 4) (pc := 106) X dX1_rankOf_106 (by decide) ?_
    exact e_iret (pc := 107) X hr hf (Nat.le_refl _) (Nat.le_refl _) dX1_rankOf_107
  refine sw hf (fun e7 hf => ?_) (fun e7 hf => ?_)
  · refine r_lookup (tgt := 106) (pc := 1) X dX1_rankOf_1 (by decide) (by rw [e7] <;> rfl) (by decide) ?_
    refine r_iconst (v := 4) (pc := 106) X dX1_rankOf_106 (by decide) ?_
    exact e_iret (pc := 107) X hr hf (Nat.le_refl _) (Nat.le_refl _) dX1_rankOf_107
  refine sw hf (fun e8 hf => ?_) (fun e8 hf => ?_)
  · refine r_lookup (tgt := 106) (pc := 1) X dX1_rankOf_1 (by decide) (by rw [e8] <;> rfl) (by decide) ?_
    refine r_iconst (v := 4) (pc := 106) X dX1_rankOf_106 (by decide) ?_
    exact e_iret (pc := 107) X hr hf (Nat.le_refl _) (Nat.le_refl _) dX1_rankOf_107
  refine sw hf (fun e9 hf => ?_) (fun e9 hf => ?_)
  · refine r_lookup (tgt := 100) (pc := 1) X dX1_rankOf_1 (by decide) (by rw [e9] <;> rfl) (by decide) ?_
    refine r_iconst (v := 1) (pc := 100) X dX1_rankOf_100 (by decide) ?_
    exact e_iret (pc := 101) X hr hf (Nat.le_refl _) (Nat.le_refl _) dX1_rankOf_101
  refine sw hf (fun e10 hf => ?_) (fun e10 hf => ?_)
  · refine r_lookup (tgt := 113) (pc := 1) X dX1_rankOf_1 (by decide) (by rw [e10] <;> rfl) (by decide) ?_
    refine r_bipush (v := 7) (pc := 113) X dX1_rankOf_113 (by decide) ?_
    exact e_iret (pc := 115) X hr hf (Nat.le_refl _) (Nat.le_refl _) dX1_rankOf_115
  · refine r_lookup (off := 115) (tgt := 116) (pc := 1) X dX1_rankOf_1 (by decide) ((lv_osw e0 (by decide)).trans ((lv_osw e1 (by decide)).trans ((lv_osw e2 (by decide)).trans ((lv_osw e3 (by decide)).trans ((lv_osw e4 (by decide)).trans ((lv_osw e5 (by decide)).trans ((lv_osw e6 (by decide)).trans ((lv_osw e7 (by decide)).trans ((lv_osw e8 (by decide)).trans ((lv_osw e9 (by decide)).trans ((lv_osw e10 (by decide)).trans rfl))))))))))) (by decide) ?_
    refine r_iconst (v := 0) (pc := 116) X dX1_rankOf_116 (by decide) ?_
    exact e_iret (pc := 117) X hr hf (Nat.le_refl _) (Nat.le_refl _) dX1_rankOf_117
/-! f_Coder_put -/
theorem dX1_put_0 : decode cX1_put 0 = .ok (.aload_n 0, 1) := by decide +kernel
theorem dX1_put_1 : decode cX1_put 1 = .ok (.getfield 15, 3) := by decide +kernel
theorem dX1_put_4 : decode cX1_put 4 = .ok (.iconst 0, 1) := by decide +kernel
theorem dX1_put_5 : decode cX1_put 5 = .ok (.aload_n 0, 1) := by decide +kernel
theorem dX1_put_6 : decode cX1_put 6 = .ok (.getfield 9, 3) := by decide +kernel
theorem dX1_put_9 : decode cX1_put 9 = .ok (.arraylength, 1) := by decide +kernel
theorem dX1_put_10 : decode cX1_put 10 = .ok (.iconst 1, 1) := by decide +kernel
theorem dX1_put_11 : decode cX1_put 11 = .ok (.isub, 1) := by decide +kernel
theorem dX1_put_12 : decode cX1_put 12 = .ok (.invokestatic 74, 3) := by decide +kernel
theorem dX1_put_15 : decode cX1_put 15 = .ok (.ifCond .eq 23, 3) := by decide +kernel
theorem dX1_put_18 : decode cX1_put 18 = .ok (.aload_n 0, 1) := by decide +kernel
theorem dX1_put_19 : decode cX1_put 19 = .ok (.getfield 9, 3) := by decide +kernel
theorem dX1_put_22 : decode cX1_put 22 = .ok (.aload_n 0, 1) := by decide +kernel
theorem dX1_put_23 : decode cX1_put 23 = .ok (.getfield 15, 3) := by decide +kernel
theorem dX1_put_26 : decode cX1_put 26 = .ok (.iload_n 1, 1) := by decide +kernel
theorem dX1_put_27 : decode cX1_put 27 = .ok (.iastore, 1) := by decide +kernel
theorem dX1_put_28 : decode cX1_put 28 = .ok (.aload_n 0, 1) := by decide +kernel
theorem dX1_put_29 : decode cX1_put 29 = .ok (.dup, 1) := by decide +kernel
theorem dX1_put_30 : decode cX1_put 30 = .ok (.getfield 15, 3) := by decide +kernel
theorem dX1_put_33 : decode cX1_put 33 = .ok (.iconst 1, 1) := by decide +kernel
theorem dX1_put_34 : decode cX1_put 34 = .ok (.iadd, 1) := by decide +kernel
theorem dX1_put_35 : decode cX1_put 35 = .ok (.putfield 15, 3) := by decide +kernel
theorem dX1_put_38 : decode cX1_put 38 = .ok (.return_, 1) := by decide +kernel
def f_Coder_put (F : Nat) (s : St) (p1 : Int32) : Option (St) :=
  (f_P_isIn F s (gI s 1665) 0 ((80 : Int32) - 1)).bind fun x1 => (if x1.1 = 0 then
    (some x1.2)
  else
    ((ix 80 (gI x1.2 1665)).bind fun j2 => (lt (sA x1.2 27 j2 p1) fun s3 => (lt (sI s3 1665 ((gI s3 1665) + 1)) fun s4 => (some s4)))))
set_option maxHeartbeats 1000000 in
theorem c_f_Coder_put {F : Nat} {s : St} {p1 : Int32} {s' : St} (hf : f_Coder_put F s p1 = some s') : CC true yX1_put (Cond.code yX1_put cX1_put 2 none) 1 22 (fun B => [.ref (B + 26), .int p1]) s (fun B => none) s' 0 0 := by
  refine CC.of (fun B => [(0, .ref (B + 26)), (1, .int p1)]) (by decide +kernel) (fun _ => rfl) (fun _ => (by simp [lg_sl, rfB_cat, catI, catL, catR])) (fun Γ D B X hr hin => ?_)
  have X : Cx Γ RX1 cX1_put 2 D B { frames := 1, cells := 0, slots := 0, locals := 22 } := X
  unfold f_Coder_put at hf
  refine r_aload_n (x := some 26) (pc := 0) X dX1_put_0 0 rfl ?_
  refine r_get (j := 1) (pc := 1) X ce_26 rfl inT1 (by decide) w_243 rfl dX1_put_1 ?_
  refine r_iconst (v := 0) (pc := 4) X dX1_put_4 (by decide) ?_
  refine r_aload_n (x := some 26) (pc := 5) X dX1_put_5 0 rfl ?_
  refine r_get (j := 0) (pc := 6) X ce_26 rfl inT1 (by decide) w_241 rfl dX1_put_6 ?_
  refine r_alen (t0 := 1) (v := 80) (pc := 9) X ce_27 rfl (by decide) dX1_put_9 ?_
  refine r_iconst (v := 1) (pc := 10) X dX1_put_10 (by decide) ?_
  refine r_isub (pc := 11) X dX1_put_11 ?_
  refine bnd hf (fun x1 h1 hf => ?_)
  refine r_callSNi (As := [.int (gI s 1665), .int 0, .int ((80 : Int32) - 1)]) (st := []) (pc := 12) X (c_f_P_isIn h1) rfl wn_674 w_474 w_74 w_475 hdS_X10_isIn (by decide) (by decide) (by decide) (Nat.le_of_ble_eq_true rfl) dX1_put_12 rfl ?_
  refine b_if_eq (tgt := 38) (pc := 15) X dX1_put_15 (by decide) hf (fun hf => ?_) (fun hf => ?_)
  · exact e_vret (pc := 38) X hr hf (Nat.le_refl _) (Nat.le_refl _) dX1_put_38
  · refine r_aload_n (x := some 26) (pc := 18) X dX1_put_18 0 rfl ?_
    refine r_get (j := 0) (pc := 19) X ce_26 rfl inT1 (by decide) w_241 rfl dX1_put_19 ?_
    refine r_aload_n (x := some 26) (pc := 22) X dX1_put_22 0 rfl ?_
    refine r_get (j := 1) (pc := 23) X ce_26 rfl inT1 (by decide) w_243 rfl dX1_put_23 ?_
    refine r_iload_n (pc := 26) X dX1_put_26 1 rfl ?_
    refine b_iast (pc := 27) X ce_27 (fun _ => ca_27 _ _) dX1_put_27 hf (fun j2 s3 hf => ?_)
    refine r_aload_n (x := some 26) (pc := 28) X dX1_put_28 0 rfl ?_
    refine r_dup (pc := 29) X dX1_put_29 rfl ?_
    refine r_get (j := 1) (pc := 30) X ce_26 rfl inT1 (by decide) w_243 rfl dX1_put_30 ?_
    refine r_iconst (v := 1) (pc := 33) X dX1_put_33 (by decide) ?_
    refine r_iadd (pc := 34) X dX1_put_34 ?_
    refine b_put (j := 1) (pc := 35) X ce_26 rfl inT1 tyX1 tyX1_ok nmX1 (by decide) w_243 rfl (tyX1_ok 1 (by decide)) rfl rfl (Nat.le_of_ble_eq_true rfl) (cp_1665 _) rfl rfl dX1_put_35 hf (fun s4 hf => ?_)
    exact e_vret (pc := 38) X hr hf (Nat.le_refl _) (Nat.le_refl _) dX1_put_38
/-! f_Coder_settle -/
theorem dX1_settle_0 : decode cX1_settle 0 = .ok (.aload_n 0, 1) := by decide +kernel
theorem dX1_settle_1 : decode cX1_settle 1 = .ok (.getfield 25, 3) := by decide +kernel
theorem dX1_settle_4 : decode cX1_settle 4 = .ok (.iconst 1, 1) := by decide +kernel
theorem dX1_settle_5 : decode cX1_settle 5 = .ok (.aload_n 0, 1) := by decide +kernel
theorem dX1_settle_6 : decode cX1_settle 6 = .ok (.getfield 19, 3) := by decide +kernel
theorem dX1_settle_9 : decode cX1_settle 9 = .ok (.arraylength, 1) := by decide +kernel
theorem dX1_settle_10 : decode cX1_settle 10 = .ok (.invokestatic 74, 3) := by decide +kernel
theorem dX1_settle_13 : decode cX1_settle 13 = .ok (.ifCond .eq 47, 3) := by decide +kernel
theorem dX1_settle_16 : decode cX1_settle 16 = .ok (.aload_n 0, 1) := by decide +kernel
theorem dX1_settle_17 : decode cX1_settle 17 = .ok (.getfield 19, 3) := by decide +kernel
theorem dX1_settle_20 : decode cX1_settle 20 = .ok (.aload_n 0, 1) := by decide +kernel
theorem dX1_settle_21 : decode cX1_settle 21 = .ok (.getfield 25, 3) := by decide +kernel
theorem dX1_settle_24 : decode cX1_settle 24 = .ok (.iconst 1, 1) := by decide +kernel
theorem dX1_settle_25 : decode cX1_settle 25 = .ok (.isub, 1) := by decide +kernel
theorem dX1_settle_26 : decode cX1_settle 26 = .ok (.iaload, 1) := by decide +kernel
theorem dX1_settle_27 : decode cX1_settle 27 = .ok (.invokestatic 78, 3) := by decide +kernel
theorem dX1_settle_30 : decode cX1_settle 30 = .ok (.iload_n 1, 1) := by decide +kernel
theorem dX1_settle_31 : decode cX1_settle 31 = .ok (.if_icmp .lt 29, 3) := by decide +kernel
theorem dX1_settle_34 : decode cX1_settle 34 = .ok (.aload_n 0, 1) := by decide +kernel
theorem dX1_settle_35 : decode cX1_settle 35 = .ok (.dup, 1) := by decide +kernel
theorem dX1_settle_36 : decode cX1_settle 36 = .ok (.getfield 25, 3) := by decide +kernel
theorem dX1_settle_39 : decode cX1_settle 39 = .ok (.iconst 1, 1) := by decide +kernel
theorem dX1_settle_40 : decode cX1_settle 40 = .ok (.isub, 1) := by decide +kernel
theorem dX1_settle_41 : decode cX1_settle 41 = .ok (.putfield 25, 3) := by decide +kernel
theorem dX1_settle_44 : decode cX1_settle 44 = .ok (.aload_n 0, 1) := by decide +kernel
theorem dX1_settle_45 : decode cX1_settle 45 = .ok (.aload_n 0, 1) := by decide +kernel
theorem dX1_settle_46 : decode cX1_settle 46 = .ok (.getfield 19, 3) := by decide +kernel
theorem dX1_settle_49 : decode cX1_settle 49 = .ok (.aload_n 0, 1) := by decide +kernel
theorem dX1_settle_50 : decode cX1_settle 50 = .ok (.getfield 25, 3) := by decide +kernel
theorem dX1_settle_53 : decode cX1_settle 53 = .ok (.iaload, 1) := by decide +kernel
theorem dX1_settle_54 : decode cX1_settle 54 = .ok (.invokevirtual 62, 3) := by decide +kernel
theorem dX1_settle_57 : decode cX1_settle 57 = .ok (.goto (-57), 3) := by decide +kernel
theorem dX1_settle_60 : decode cX1_settle 60 = .ok (.return_, 1) := by decide +kernel
def f_Coder_settle_b0 (F : Nat) : Nat → St → Int32 → Option (St)
  | 0, _, _ => none
  | n + 1, s, l1 =>
    (f_P_isIn F s (gI s 1668) 1 40).bind fun x1 => (if x1.1 = 0 then
      (some x1.2)
    else
      ((ix 40 ((gI x1.2 1668) - 1)).bind fun j2 => ((f_Coder_rankOf F x1.2 (gA x1.2 28 j2)).bind fun x3 => (if x3.1 < l1 then
        (some x3.2)
      else
        (lt (sI x3.2 1668 ((gI x3.2 1668) - 1)) fun s4 => ((ix 40 (gI s4 1668)).bind fun j5 => ((f_Coder_put F s4 (gA s4 28 j5)).bind fun x6 => (f_Coder_settle_b0 F n x6 l1))))))))
def f_Coder_settle (F : Nat) (s : St) (p1 : Int32) : Option (St) :=
  f_Coder_settle_b0 F F s p1
set_option maxHeartbeats 1000000 in
theorem c_f_Coder_settle_b0 {F : Nat} {Γ : Ga} {D : DD} {B : Nat} {s' : St} (X : Cx Γ RX1 cX1_settle 2 D B { frames := 2, cells := 0, slots := 0, locals := 43 }) (hr : (Gme Γ).sig.returnType = none) : ∀ (n : Nat) {s : St} {l1 : Int32}, f_Coder_settle_b0 F n s l1 = some s' → V Γ D B true 2 (QM Γ D B true s' none 0 0) 0 0 s 0 [(0, .ref (B + 26)), (1, .int l1)] [] := by
  intro n
  induction n with
  | zero => intro s l1 hf; rw [f_Coder_settle_b0] at hf; cases hf
  | succ n ih =>
    intro s l1 hf
    rw [f_Coder_settle_b0] at hf
    refine r_aload_n (x := some 26) (pc := 0) X dX1_settle_0 0 rfl ?_
    refine r_get (j := 4) (pc := 1) X ce_26 rfl inT1 (by decide) w_247 rfl dX1_settle_1 ?_
    refine r_iconst (v := 1) (pc := 4) X dX1_settle_4 (by decide) ?_
    refine r_aload_n (x := some 26) (pc := 5) X dX1_settle_5 0 rfl ?_
    refine r_get (j := 2) (pc := 6) X ce_26 rfl inT1 (by decide) w_245 rfl dX1_settle_6 ?_
    refine r_alen (t0 := 1) (v := 40) (pc := 9) X ce_28 rfl (by decide) dX1_settle_9 ?_
    refine bnd hf (fun x1 h1 hf => ?_)
    refine r_callSNi (As := [.int (gI s 1668), .int 1, .int 40]) (st := []) (pc := 10) X (c_f_P_isIn h1) rfl wn_674 w_474 w_74 w_475 hdS_X10_isIn (by decide) (by decide) (by decide) (Nat.le_of_ble_eq_true rfl) dX1_settle_10 rfl ?_
    refine b_if_eq (tgt := 60) (pc := 13) X dX1_settle_13 (by decide) hf (fun hf => ?_) (fun hf => ?_)
    · exact e_vret (pc := 60) X hr hf (Nat.le_refl _) (Nat.le_refl _) dX1_settle_60
    · refine r_aload_n (x := some 26) (pc := 16) X dX1_settle_16 0 rfl ?_
      refine r_get (j := 2) (pc := 17) X ce_26 rfl inT1 (by decide) w_245 rfl dX1_settle_17 ?_
      refine r_aload_n (x := some 26) (pc := 20) X dX1_settle_20 0 rfl ?_
      refine r_get (j := 4) (pc := 21) X ce_26 rfl inT1 (by decide) w_247 rfl dX1_settle_21 ?_
      refine r_iconst (v := 1) (pc := 24) X dX1_settle_24 (by decide) ?_
      refine r_isub (pc := 25) X dX1_settle_25 ?_
      refine b_iald (pc := 26) X ce_28 dX1_settle_26 hf (fun j2 hf => ?_)
      refine bnd hf (fun x3 h3 hf => ?_)
      refine r_callSi (As := [.int (gA x1.2 28 j2)]) (st := []) (pc := 27) X (c_f_Coder_rankOf h3) rfl w_693 w_694 w_80 w_695 hdS_X1_rankOf (by decide) (by decide) (by decide) (Nat.le_of_ble_eq_true rfl) dX1_settle_27 rfl ?_
      refine r_iload_n (pc := 30) X dX1_settle_30 1 rfl ?_
      refine b_icmp_lt (tgt := 60) (pc := 31) X dX1_settle_31 (by decide) hf (fun hf => ?_) (fun hf => ?_)
      · exact e_vret (pc := 60) X hr hf (Nat.le_refl _) (Nat.le_refl _) dX1_settle_60
      · refine r_aload_n (x := some 26) (pc := 34) X dX1_settle_34 0 rfl ?_
        refine r_dup (pc := 35) X dX1_settle_35 rfl ?_
        refine r_get (j := 4) (pc := 36) X ce_26 rfl inT1 (by decide) w_247 rfl dX1_settle_36 ?_
        refine r_iconst (v := 1) (pc := 39) X dX1_settle_39 (by decide) ?_
        refine r_isub (pc := 40) X dX1_settle_40 ?_
        refine b_put (j := 4) (pc := 41) X ce_26 rfl inT1 tyX1 tyX1_ok nmX1 (by decide) w_247 rfl (tyX1_ok 4 (by decide)) rfl rfl (Nat.le_of_ble_eq_true rfl) (cp_1668 _) rfl rfl dX1_settle_41 hf (fun s4 hf => ?_)
        refine r_aload_n (x := some 26) (pc := 44) X dX1_settle_44 0 rfl ?_
        refine r_aload_n (x := some 26) (pc := 45) X dX1_settle_45 0 rfl ?_
        refine r_get (j := 2) (pc := 46) X ce_26 rfl inT1 (by decide) w_245 rfl dX1_settle_46 ?_
        refine r_aload_n (x := some 26) (pc := 49) X dX1_settle_49 0 rfl ?_
        refine r_get (j := 4) (pc := 50) X ce_26 rfl inT1 (by decide) w_247 rfl dX1_settle_50 ?_
        refine b_iald (pc := 53) X ce_28 dX1_settle_53 hf (fun j5 hf => ?_)
        refine bnd hf (fun x6 h6 hf => ?_)
        refine r_callVv (As := [.int (gA s4 28 j5)]) (st := []) (pc := 54) X (c_f_Coder_put h6) rfl w_670 w_672 w_17 w_80 w_673 hdV_X1_put (Rc.s rfl ce_26) (by decide) (by decide) (by decide) (Nat.le_of_ble_eq_true rfl) dX1_settle_54 rfl ?_
        refine r_goto (tgt := 0) (pc := 57) X dX1_settle_57 (by decide) ?_
        exact ih hf
set_option maxHeartbeats 1000000 in
theorem c_f_Coder_settle {F : Nat} {s : St} {p1 : Int32} {s' : St} (hf : f_Coder_settle F s p1 = some s') : CC true yX1_settle (Cond.code yX1_settle cX1_settle 2 none) 2 43 (fun B => [.ref (B + 26), .int p1]) s (fun B => none) s' 0 0 := by
  refine CC.of (fun B => [(0, .ref (B + 26)), (1, .int p1)]) (by decide +kernel) (fun _ => rfl) (fun _ => (by simp [lg_sl, rfB_cat, catI, catL, catR])) (fun Γ D B X hr hin => ?_)
  have X : Cx Γ RX1 cX1_settle 2 D B { frames := 2, cells := 0, slots := 0, locals := 43 } := X
  unfold f_Coder_settle at hf
  exact c_f_Coder_settle_b0 X hr _ hf
/-! f_Coder_push -/
theorem dX1_push_0 : decode cX1_push 0 = .ok (.aload_n 0, 1) := by decide +kernel
theorem dX1_push_1 : decode cX1_push 1 = .ok (.getfield 25, 3) := by decide +kernel
theorem dX1_push_4 : decode cX1_push 4 = .ok (.iconst 0, 1) := by decide +kernel
theorem dX1_push_5 : decode cX1_push 5 = .ok (.aload_n 0, 1) := by decide +kernel
theorem dX1_push_6 : decode cX1_push 6 = .ok (.getfield 19, 3) := by decide +kernel
theorem dX1_push_9 : decode cX1_push 9 = .ok (.arraylength, 1) := by decide +kernel
theorem dX1_push_10 : decode cX1_push 10 = .ok (.iconst 1, 1) := by decide +kernel
theorem dX1_push_11 : decode cX1_push 11 = .ok (.isub, 1) := by decide +kernel
theorem dX1_push_12 : decode cX1_push 12 = .ok (.invokestatic 74, 3) := by decide +kernel
theorem dX1_push_15 : decode cX1_push 15 = .ok (.ifCond .eq 36, 3) := by decide +kernel
theorem dX1_push_18 : decode cX1_push 18 = .ok (.aload_n 0, 1) := by decide +kernel
theorem dX1_push_19 : decode cX1_push 19 = .ok (.getfield 19, 3) := by decide +kernel
theorem dX1_push_22 : decode cX1_push 22 = .ok (.aload_n 0, 1) := by decide +kernel
theorem dX1_push_23 : decode cX1_push 23 = .ok (.getfield 25, 3) := by decide +kernel
theorem dX1_push_26 : decode cX1_push 26 = .ok (.iload_n 1, 1) := by decide +kernel
theorem dX1_push_27 : decode cX1_push 27 = .ok (.iastore, 1) := by decide +kernel
theorem dX1_push_28 : decode cX1_push 28 = .ok (.aload_n 0, 1) := by decide +kernel
theorem dX1_push_29 : decode cX1_push 29 = .ok (.getfield 22, 3) := by decide +kernel
theorem dX1_push_32 : decode cX1_push 32 = .ok (.aload_n 0, 1) := by decide +kernel
theorem dX1_push_33 : decode cX1_push 33 = .ok (.getfield 25, 3) := by decide +kernel
theorem dX1_push_36 : decode cX1_push 36 = .ok (.aload_n 0, 1) := by decide +kernel
theorem dX1_push_37 : decode cX1_push 37 = .ok (.getfield 15, 3) := by decide +kernel
theorem dX1_push_40 : decode cX1_push 40 = .ok (.iastore, 1) := by decide +kernel
theorem dX1_push_41 : decode cX1_push 41 = .ok (.aload_n 0, 1) := by decide +kernel
theorem dX1_push_42 : decode cX1_push 42 = .ok (.dup, 1) := by decide +kernel
theorem dX1_push_43 : decode cX1_push 43 = .ok (.getfield 25, 3) := by decide +kernel
theorem dX1_push_46 : decode cX1_push 46 = .ok (.iconst 1, 1) := by decide +kernel
theorem dX1_push_47 : decode cX1_push 47 = .ok (.iadd, 1) := by decide +kernel
theorem dX1_push_48 : decode cX1_push 48 = .ok (.putfield 25, 3) := by decide +kernel
theorem dX1_push_51 : decode cX1_push 51 = .ok (.return_, 1) := by decide +kernel
def f_Coder_push (F : Nat) (s : St) (p1 : Int32) : Option (St) :=
  (f_P_isIn F s (gI s 1668) 0 ((40 : Int32) - 1)).bind fun x1 => (if x1.1 = 0 then
    (some x1.2)
  else
    ((ix 40 (gI x1.2 1668)).bind fun j2 => (lt (sA x1.2 28 j2 p1) fun s3 => ((ix 40 (gI s3 1668)).bind fun j4 => (lt (sA s3 29 j4 (gI s3 1665)) fun s5 => (lt (sI s5 1668 ((gI s5 1668) + 1)) fun s6 => (some s6)))))))
set_option maxHeartbeats 1000000 in
theorem c_f_Coder_push {F : Nat} {s : St} {p1 : Int32} {s' : St} (hf : f_Coder_push F s p1 = some s') : CC true yX1_push (Cond.code yX1_push cX1_push 2 none) 1 22 (fun B => [.ref (B + 26), .int p1]) s (fun B => none) s' 0 0 := by
  refine CC.of (fun B => [(0, .ref (B + 26)), (1, .int p1)]) (by decide +kernel) (fun _ => rfl) (fun _ => (by simp [lg_sl, rfB_cat, catI, catL, catR])) (fun Γ D B X hr hin => ?_)
  have X : Cx Γ RX1 cX1_push 2 D B { frames := 1, cells := 0, slots := 0, locals := 22 } := X
  unfold f_Coder_push at hf
  refine r_aload_n (x := some 26) (pc := 0) X dX1_push_0 0 rfl ?_
  refine r_get (j := 4) (pc := 1) X ce_26 rfl inT1 (by decide) w_247 rfl dX1_push_1 ?_
  refine r_iconst (v := 0) (pc := 4) X dX1_push_4 (by decide) ?_
  refine r_aload_n (x := some 26) (pc := 5) X dX1_push_5 0 rfl ?_
  refine r_get (j := 2) (pc := 6) X ce_26 rfl inT1 (by decide) w_245 rfl dX1_push_6 ?_
  refine r_alen (t0 := 1) (v := 40) (pc := 9) X ce_28 rfl (by decide) dX1_push_9 ?_
  refine r_iconst (v := 1) (pc := 10) X dX1_push_10 (by decide) ?_
  refine r_isub (pc := 11) X dX1_push_11 ?_
  refine bnd hf (fun x1 h1 hf => ?_)
  refine r_callSNi (As := [.int (gI s 1668), .int 0, .int ((40 : Int32) - 1)]) (st := []) (pc := 12) X (c_f_P_isIn h1) rfl wn_674 w_474 w_74 w_475 hdS_X10_isIn (by decide) (by decide) (by decide) (Nat.le_of_ble_eq_true rfl) dX1_push_12 rfl ?_
  refine b_if_eq (tgt := 51) (pc := 15) X dX1_push_15 (by decide) hf (fun hf => ?_) (fun hf => ?_)
  · exact e_vret (pc := 51) X hr hf (Nat.le_refl _) (Nat.le_refl _) dX1_push_51
  · refine r_aload_n (x := some 26) (pc := 18) X dX1_push_18 0 rfl ?_
    refine r_get (j := 2) (pc := 19) X ce_26 rfl inT1 (by decide) w_245 rfl dX1_push_19 ?_
    refine r_aload_n (x := some 26) (pc := 22) X dX1_push_22 0 rfl ?_
    refine r_get (j := 4) (pc := 23) X ce_26 rfl inT1 (by decide) w_247 rfl dX1_push_23 ?_
    refine r_iload_n (pc := 26) X dX1_push_26 1 rfl ?_
    refine b_iast (pc := 27) X ce_28 (fun _ => ca_28 _ _) dX1_push_27 hf (fun j2 s3 hf => ?_)
    refine r_aload_n (x := some 26) (pc := 28) X dX1_push_28 0 rfl ?_
    refine r_get (j := 3) (pc := 29) X ce_26 rfl inT1 (by decide) w_246 rfl dX1_push_29 ?_
    refine r_aload_n (x := some 26) (pc := 32) X dX1_push_32 0 rfl ?_
    refine r_get (j := 4) (pc := 33) X ce_26 rfl inT1 (by decide) w_247 rfl dX1_push_33 ?_
    refine r_aload_n (x := some 26) (pc := 36) X dX1_push_36 0 rfl ?_
    refine r_get (j := 1) (pc := 37) X ce_26 rfl inT1 (by decide) w_243 rfl dX1_push_37 ?_
    refine b_iast (pc := 40) X ce_29 (fun _ => ca_29 _ _) dX1_push_40 hf (fun j4 s5 hf => ?_)
    refine r_aload_n (x := some 26) (pc := 41) X dX1_push_41 0 rfl ?_
    refine r_dup (pc := 42) X dX1_push_42 rfl ?_
    refine r_get (j := 4) (pc := 43) X ce_26 rfl inT1 (by decide) w_247 rfl dX1_push_43 ?_
    refine r_iconst (v := 1) (pc := 46) X dX1_push_46 (by decide) ?_
    refine r_iadd (pc := 47) X dX1_push_47 ?_
    refine b_put (j := 4) (pc := 48) X ce_26 rfl inT1 tyX1 tyX1_ok nmX1 (by decide) w_247 rfl (tyX1_ok 4 (by decide)) rfl rfl (Nat.le_of_ble_eq_true rfl) (cp_1668 _) rfl rfl dX1_push_48 hf (fun s6 hf => ?_)
    exact e_vret (pc := 51) X hr hf (Nat.le_refl _) (Nat.le_refl _) dX1_push_51
/-! f_Coder_close -/
theorem dX1_close_0 : decode cX1_close 0 = .ok (.aload_n 0, 1) := by decide +kernel
theorem dX1_close_1 : decode cX1_close 1 = .ok (.iconst 1, 1) := by decide +kernel
theorem dX1_close_2 : decode cX1_close 2 = .ok (.invokevirtual 42, 3) := by decide +kernel
theorem dX1_close_5 : decode cX1_close 5 = .ok (.aload_n 0, 1) := by decide +kernel
theorem dX1_close_6 : decode cX1_close 6 = .ok (.iconst 1, 1) := by decide +kernel
theorem dX1_close_7 : decode cX1_close 7 = .ok (.putfield 28, 3) := by decide +kernel
theorem dX1_close_10 : decode cX1_close 10 = .ok (.aload_n 0, 1) := by decide +kernel
theorem dX1_close_11 : decode cX1_close 11 = .ok (.getfield 25, 3) := by decide +kernel
theorem dX1_close_14 : decode cX1_close 14 = .ok (.iconst 1, 1) := by decide +kernel
theorem dX1_close_15 : decode cX1_close 15 = .ok (.aload_n 0, 1) := by decide +kernel
theorem dX1_close_16 : decode cX1_close 16 = .ok (.getfield 19, 3) := by decide +kernel
theorem dX1_close_19 : decode cX1_close 19 = .ok (.arraylength, 1) := by decide +kernel
theorem dX1_close_20 : decode cX1_close 20 = .ok (.invokestatic 74, 3) := by decide +kernel
theorem dX1_close_23 : decode cX1_close 23 = .ok (.ifCond .ne 4, 3) := by decide +kernel
theorem dX1_close_26 : decode cX1_close 26 = .ok (.return_, 1) := by decide +kernel
theorem dX1_close_27 : decode cX1_close 27 = .ok (.aload_n 0, 1) := by decide +kernel
theorem dX1_close_28 : decode cX1_close 28 = .ok (.dup, 1) := by decide +kernel
theorem dX1_close_29 : decode cX1_close 29 = .ok (.getfield 25, 3) := by decide +kernel
theorem dX1_close_32 : decode cX1_close 32 = .ok (.iconst 1, 1) := by decide +kernel
theorem dX1_close_33 : decode cX1_close 33 = .ok (.isub, 1) := by decide +kernel
theorem dX1_close_34 : decode cX1_close 34 = .ok (.putfield 25, 3) := by decide +kernel
theorem dX1_close_37 : decode cX1_close 37 = .ok (.aload_n 0, 1) := by decide +kernel
theorem dX1_close_38 : decode cX1_close 38 = .ok (.getfield 22, 3) := by decide +kernel
theorem dX1_close_41 : decode cX1_close 41 = .ok (.aload_n 0, 1) := by decide +kernel
theorem dX1_close_42 : decode cX1_close 42 = .ok (.getfield 25, 3) := by decide +kernel
theorem dX1_close_45 : decode cX1_close 45 = .ok (.iaload, 1) := by decide +kernel
theorem dX1_close_46 : decode cX1_close 46 = .ok (.iconst 3, 1) := by decide +kernel
theorem dX1_close_47 : decode cX1_close 47 = .ok (.iadd, 1) := by decide +kernel
theorem dX1_close_48 : decode cX1_close 48 = .ok (.istore_n 1, 1) := by decide +kernel
theorem dX1_close_49 : decode cX1_close 49 = .ok (.aload_n 0, 1) := by decide +kernel
theorem dX1_close_50 : decode cX1_close 50 = .ok (.getfield 19, 3) := by decide +kernel
theorem dX1_close_53 : decode cX1_close 53 = .ok (.aload_n 0, 1) := by decide +kernel
theorem dX1_close_54 : decode cX1_close 54 = .ok (.getfield 25, 3) := by decide +kernel
theorem dX1_close_57 : decode cX1_close 57 = .ok (.iaload, 1) := by decide +kernel
theorem dX1_close_58 : decode cX1_close 58 = .ok (.invokestatic 53, 3) := by decide +kernel
theorem dX1_close_61 : decode cX1_close 61 = .ok (.ifCond .eq 38, 3) := by decide +kernel
theorem dX1_close_64 : decode cX1_close 64 = .ok (.iload_n 1, 1) := by decide +kernel
theorem dX1_close_65 : decode cX1_close 65 = .ok (.aload_n 0, 1) := by decide +kernel
theorem dX1_close_66 : decode cX1_close 66 = .ok (.getfield 15, 3) := by decide +kernel
theorem dX1_close_69 : decode cX1_close 69 = .ok (.if_icmp .gt 30, 3) := by decide +kernel
theorem dX1_close_72 : decode cX1_close 72 = .ok (.iload_n 1, 1) := by decide +kernel
theorem dX1_close_73 : decode cX1_close 73 = .ok (.iconst 1, 1) := by decide +kernel
theorem dX1_close_74 : decode cX1_close 74 = .ok (.aload_n 0, 1) := by decide +kernel
theorem dX1_close_75 : decode cX1_close 75 = .ok (.getfield 9, 3) := by decide +kernel
theorem dX1_close_78 : decode cX1_close 78 = .ok (.arraylength, 1) := by decide +kernel
theorem dX1_close_79 : decode cX1_close 79 = .ok (.invokestatic 74, 3) := by decide +kernel
theorem dX1_close_82 : decode cX1_close 82 = .ok (.ifCond .eq 17, 3) := by decide +kernel
theorem dX1_close_85 : decode cX1_close 85 = .ok (.aload_n 0, 1) := by decide +kernel
theorem dX1_close_86 : decode cX1_close 86 = .ok (.getfield 9, 3) := by decide +kernel
theorem dX1_close_89 : decode cX1_close 89 = .ok (.iload_n 1, 1) := by decide +kernel
theorem dX1_close_90 : decode cX1_close 90 = .ok (.iconst 1, 1) := by decide +kernel
theorem dX1_close_91 : decode cX1_close 91 = .ok (.isub, 1) := by decide +kernel
theorem dX1_close_92 : decode cX1_close 92 = .ok (.aload_n 0, 1) := by decide +kernel
theorem dX1_close_93 : decode cX1_close 93 = .ok (.getfield 15, 3) := by decide +kernel
theorem dX1_close_96 : decode cX1_close 96 = .ok (.iload_n 1, 1) := by decide +kernel
theorem dX1_close_97 : decode cX1_close 97 = .ok (.isub, 1) := by decide +kernel
theorem dX1_close_98 : decode cX1_close 98 = .ok (.iastore, 1) := by decide +kernel
theorem dX1_close_99 : decode cX1_close 99 = .ok (.return_, 1) := by decide +kernel
def f_Coder_close (F : Nat) (s : St)  : Option (St) :=
  (f_Coder_settle F s 1).bind fun x1 => (lt (sI x1 1669 1) fun s2 => ((f_P_isIn F s2 (gI s2 1668) 1 40).bind fun x3 => (if x3.1 = 0 then
    (some x3.2)
  else
    (lt (sI x3.2 1668 ((gI x3.2 1668) - 1)) fun s4 => ((ix 40 (gI s4 1668)).bind fun j5 => ((ix 40 (gI s4 1668)).bind fun j6 => ((f_P_isAggregate F s4 (gA s4 28 j6)).bind fun x7 => (if x7.1 = 0 then
      (some x7.2)
    else
      (if (gI x7.2 1665) < ((gA s4 29 j5) + 3) then
        (some x7.2)
      else
        ((f_P_isIn F x7.2 ((gA s4 29 j5) + 3) 1 80).bind fun x8 => (if x8.1 = 0 then
          (some x8.2)
        else
          ((ix 80 (((gA s4 29 j5) + 3) - 1)).bind fun j9 => (lt (sA x8.2 27 j9 ((gI x8.2 1665) - ((gA s4 29 j5) + 3))) fun s10 => (some s10))))))))))))))
set_option maxHeartbeats 1000000 in
theorem c_f_Coder_close {F : Nat} {s : St}  {s' : St} (hf : f_Coder_close F s  = some s') : CC true yX1_close (Cond.code yX1_close cX1_close 2 none) 3 64 (fun B => [.ref (B + 26)]) s (fun B => none) s' 0 0 := by
  refine CC.of (fun B => [(0, .ref (B + 26))]) (by decide +kernel) (fun _ => rfl) (fun _ => (by simp [lg_sl, rfB_cat, catI, catL, catR])) (fun Γ D B X hr hin => ?_)
  have X : Cx Γ RX1 cX1_close 2 D B { frames := 3, cells := 0, slots := 0, locals := 64 } := X
  unfold f_Coder_close at hf
  refine r_aload_n (x := some 26) (pc := 0) X dX1_close_0 0 rfl ?_
  refine r_iconst (v := 1) (pc := 1) X dX1_close_1 (by decide) ?_
  refine bnd hf (fun x1 h1 hf => ?_)
  refine r_callVv (As := [.int 1]) (st := []) (pc := 2) X (c_f_Coder_settle h1) rfl w_689 w_691 w_21 w_80 w_692 hdV_X1_settle (Rc.s rfl ce_26) (by decide) (by decide) (by decide) (Nat.le_of_ble_eq_true rfl) dX1_close_2 rfl ?_
  refine r_aload_n (x := some 26) (pc := 5) X dX1_close_5 0 rfl ?_
  refine r_iconst (v := 1) (pc := 6) X dX1_close_6 (by decide) ?_
  refine b_put (j := 5) (pc := 7) X ce_26 rfl inT1 tyX1 tyX1_ok nmX1 (by decide) w_248 rfl (tyX1_ok 5 (by decide)) rfl rfl (Nat.le_of_ble_eq_true rfl) (cp_1669 _) rfl rfl dX1_close_7 hf (fun s2 hf => ?_)
  refine r_aload_n (x := some 26) (pc := 10) X dX1_close_10 0 rfl ?_
  refine r_get (j := 4) (pc := 11) X ce_26 rfl inT1 (by decide) w_247 rfl dX1_close_11 ?_
  refine r_iconst (v := 1) (pc := 14) X dX1_close_14 (by decide) ?_
  refine r_aload_n (x := some 26) (pc := 15) X dX1_close_15 0 rfl ?_
  refine r_get (j := 2) (pc := 16) X ce_26 rfl inT1 (by decide) w_245 rfl dX1_close_16 ?_
  refine r_alen (t0 := 1) (v := 40) (pc := 19) X ce_28 rfl (by decide) dX1_close_19 ?_
  refine bnd hf (fun x3 h3 hf => ?_)
  refine r_callSNi (As := [.int (gI s2 1668), .int 1, .int 40]) (st := []) (pc := 20) X (c_f_P_isIn h3) rfl wn_674 w_474 w_74 w_475 hdS_X10_isIn (by decide) (by decide) (by decide) (Nat.le_of_ble_eq_true rfl) dX1_close_20 rfl ?_
  refine b_if_ne (tgt := 27) (pc := 23) X dX1_close_23 (by decide) hf (fun hf => ?_) (fun hf => ?_)
  · exact e_vret (pc := 26) X hr hf (Nat.le_refl _) (Nat.le_refl _) dX1_close_26
  · refine r_aload_n (x := some 26) (pc := 27) X dX1_close_27 0 rfl ?_
    refine r_dup (pc := 28) X dX1_close_28 rfl ?_
    refine r_get (j := 4) (pc := 29) X ce_26 rfl inT1 (by decide) w_247 rfl dX1_close_29 ?_
    refine r_iconst (v := 1) (pc := 32) X dX1_close_32 (by decide) ?_
    refine r_isub (pc := 33) X dX1_close_33 ?_
    refine b_put (j := 4) (pc := 34) X ce_26 rfl inT1 tyX1 tyX1_ok nmX1 (by decide) w_247 rfl (tyX1_ok 4 (by decide)) rfl rfl (Nat.le_of_ble_eq_true rfl) (cp_1668 _) rfl rfl dX1_close_34 hf (fun s4 hf => ?_)
    refine r_aload_n (x := some 26) (pc := 37) X dX1_close_37 0 rfl ?_
    refine r_get (j := 3) (pc := 38) X ce_26 rfl inT1 (by decide) w_246 rfl dX1_close_38 ?_
    refine r_aload_n (x := some 26) (pc := 41) X dX1_close_41 0 rfl ?_
    refine r_get (j := 4) (pc := 42) X ce_26 rfl inT1 (by decide) w_247 rfl dX1_close_42 ?_
    refine b_iald (pc := 45) X ce_29 dX1_close_45 hf (fun j5 hf => ?_)
    refine r_iconst (v := 3) (pc := 46) X dX1_close_46 (by decide) ?_
    refine r_iadd (pc := 47) X dX1_close_47 ?_
    refine r_istore_n (pc := 48) (lv' := [(0, .ref (B + 26)), (1, .int ((gA s4 29 j5) + 3))]) X dX1_close_48 (by decide) [1, 0] rfl ?_
    refine r_aload_n (x := some 26) (pc := 49) X dX1_close_49 0 rfl ?_
    refine r_get (j := 2) (pc := 50) X ce_26 rfl inT1 (by decide) w_245 rfl dX1_close_50 ?_
    refine r_aload_n (x := some 26) (pc := 53) X dX1_close_53 0 rfl ?_
    refine r_get (j := 4) (pc := 54) X ce_26 rfl inT1 (by decide) w_247 rfl dX1_close_54 ?_
    refine b_iald (pc := 57) X ce_28 dX1_close_57 hf (fun j6 hf => ?_)
    refine bnd hf (fun x7 h7 hf => ?_)
    refine r_callSNi (As := [.int (gA s4 28 j6)]) (st := []) (pc := 58) X (c_f_P_isAggregate h7) rfl wn_675 w_411 w_74 w_412 hdS_X10_isAggregate (by decide) (by decide) (by decide) (Nat.le_of_ble_eq_true rfl) dX1_close_58 rfl ?_
    refine b_if_eq (tgt := 99) (pc := 61) X dX1_close_61 (by decide) hf (fun hf => ?_) (fun hf => ?_)
    · exact e_vret (pc := 99) X hr hf (Nat.le_refl _) (Nat.le_refl _) dX1_close_99
    · refine r_iload_n (pc := 64) X dX1_close_64 1 rfl ?_
      refine r_aload_n (x := some 26) (pc := 65) X dX1_close_65 0 rfl ?_
      refine r_get (j := 1) (pc := 66) X ce_26 rfl inT1 (by decide) w_243 rfl dX1_close_66 ?_
      refine b_icmp_gt (tgt := 99) (pc := 69) X dX1_close_69 (by decide) hf (fun hf => ?_) (fun hf => ?_)
      · exact e_vret (pc := 99) X hr hf (Nat.le_refl _) (Nat.le_refl _) dX1_close_99
      · refine r_iload_n (pc := 72) X dX1_close_72 1 rfl ?_
        refine r_iconst (v := 1) (pc := 73) X dX1_close_73 (by decide) ?_
        refine r_aload_n (x := some 26) (pc := 74) X dX1_close_74 0 rfl ?_
        refine r_get (j := 0) (pc := 75) X ce_26 rfl inT1 (by decide) w_241 rfl dX1_close_75 ?_
        refine r_alen (t0 := 1) (v := 80) (pc := 78) X ce_27 rfl (by decide) dX1_close_78 ?_
        refine bnd hf (fun x8 h8 hf => ?_)
        refine r_callSNi (As := [.int ((gA s4 29 j5) + 3), .int 1, .int 80]) (st := []) (pc := 79) X (c_f_P_isIn h8) rfl wn_674 w_474 w_74 w_475 hdS_X10_isIn (by decide) (by decide) (by decide) (Nat.le_of_ble_eq_true rfl) dX1_close_79 rfl ?_
        refine b_if_eq (tgt := 99) (pc := 82) X dX1_close_82 (by decide) hf (fun hf => ?_) (fun hf => ?_)
        · exact e_vret (pc := 99) X hr hf (Nat.le_refl _) (Nat.le_refl _) dX1_close_99
        · refine r_aload_n (x := some 26) (pc := 85) X dX1_close_85 0 rfl ?_
          refine r_get (j := 0) (pc := 86) X ce_26 rfl inT1 (by decide) w_241 rfl dX1_close_86 ?_
          refine r_iload_n (pc := 89) X dX1_close_89 1 rfl ?_
          refine r_iconst (v := 1) (pc := 90) X dX1_close_90 (by decide) ?_
          refine r_isub (pc := 91) X dX1_close_91 ?_
          refine r_aload_n (x := some 26) (pc := 92) X dX1_close_92 0 rfl ?_
          refine r_get (j := 1) (pc := 93) X ce_26 rfl inT1 (by decide) w_243 rfl dX1_close_93 ?_
          refine r_iload_n (pc := 96) X dX1_close_96 1 rfl ?_
          refine r_isub (pc := 97) X dX1_close_97 ?_
          refine b_iast (pc := 98) X ce_27 (fun _ => ca_27 _ _) dX1_close_98 hf (fun j9 s10 hf => ?_)
          exact e_vret (pc := 99) X hr hf (Nat.le_refl _) (Nat.le_refl _) dX1_close_99
