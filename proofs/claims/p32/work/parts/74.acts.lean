/-! the law's catching methods: what each call answers through them -/
theorem nar16 {c : Nat} (h : c < 65536) : ((io c).toUInt32 % 65536).toInt32 = io c := by
  have e : (io c).toUInt32 % 65536 = UInt32.ofNat c := by
    unfold io
    rw [Int32.toUInt32_ofNat', ← UInt32.toNat_inj, UInt32.toNat_mod, UInt32.toNat_ofNat']
    have h1 : (65536 : UInt32).toNat = 65536 := rfl
    rw [h1]
    omega
  rw [e, UInt32.toInt32_ofNat']; rfl
section AC
variable {F Z : Nat} {s : St} {w : WD} {A : LA}
theorem A_type (H : CL s w A) {c : Nat} (h1 : 32 ≤ c) (h2 : c ≤ 126) (hk : vk w < 40) : RB (f_L_act F Z s 0 (io c) 0 0 0) (io (vk w + 1)) s (ct s) (wtx w (ups (vt w) (vk w) c) (vk w + 1)) A := by
  rw [f_L_act, if_pos rfl, nar16 (by omega)]
  obtain ⟨s', a, b, c', -⟩ := W_type (F := F) (Z := sz s) H.1 h1 h2 hk
  exact RB.hok (RB.c0 H ⟨s', a, b, c'⟩) (fun s1 c1 d1 d2 => RB.ret c1 d2)
theorem A_type_x (H : CL s w A) (hc : ct s < Z) {c : Nat} (h : c < 32 ∨ (126 < c ∧ c < 1000)) : RB (f_L_act F Z s 0 (io c) 0 0 0) (-1242) s (ct s + 1) w A := by
  rw [f_L_act, if_pos rfl, nar16 (by omega)]
  exact RB.hx (RB.cx H (fun z => W_type_x H.1 (by rw [io_lt (by omega) (by omega), io_lt (by omega) (by omega)]; omega)) hc) (fun s1 c1 d1 d2 => RB.ret c1 d2)
theorem A_pass (hF : 5000 ≤ F) (H : CL s w A) (h1 : yh (vy w) + 1 ≤ 1000) : RB (f_L_act F Z s 1 1 0 0 0) (io (yc (vy (whr w)) - yc (vy w))) s (ct s) (whr w) A := by
  rw [f_L_act, if_neg (show ¬ (1 : Int32) = 0 by decide), if_pos rfl]
  refine RB.hok (RB.c0 H (W_pass hF H.1 h1)) (fun s1 c1 d1 d2 => ?_)
  exact RB.ret c1 d2
theorem A_pass_x (hF : 5000 ≤ F) (H : CL s w A) (hc : ct s < Z) {x : Int32} (h : x < io 1 ∨ io 24 < x) : RB (f_L_act F Z s 1 x 0 0 0) (-1242) s (ct s + 1) w A := by
  rw [f_L_act, if_neg (show ¬ (1 : Int32) = 0 by decide), if_pos rfl]
  exact RB.hx (RB.cx H (fun z => W_pass_x H.1 h) hc) (fun s1 c1 d1 d2 => RB.ret c1 d2)
theorem A_log (hF : 5000 ≤ F) (H : CL s w A) {p l hr : Nat} {v : Int32} (hp : p ≤ 7) (hl : l ≤ 5) (hv1 : -1000 ≤ v.toInt) (hv2 : v.toInt ≤ 1000) (hhr : hr ≤ yh (vy w)) (hm : vm w < 100) : RB (f_L_act F Z s 2 (io p) (io l) v (io hr)) (io (vm w)) s (ct s) (wlog w p l v hr) A := by
  rw [f_L_act, if_neg (show ¬ (2 : Int32) = 0 by decide), if_neg (show ¬ (2 : Int32) = 1 by decide), if_pos rfl]
  refine RB.hok (RB.c0 H (W_log hF H.1 hp hl hv1 hv2 hhr hm)) (fun s1 c1 d1 d2 => ?_)
  exact RB.ret c1 d2
theorem A_log_x (hF : 5000 ≤ F) (H : CL s w A) (hc : ct s < Z) {a1 a2 a3 a4 : Int32} (h : (a1 < io 0 ∨ io 7 < a1) ∨ (a2 < io 0 ∨ io 5 < a2) ∨ (a3 < -io 1000 ∨ io 1000 < a3) ∨ (a4 < io 0 ∨ io (yh (vy w)) < a4)) : RB (f_L_act F Z s 2 a1 a2 a3 a4) (-1242) s (ct s + 1) w A := by
  rw [f_L_act, if_neg (show ¬ (2 : Int32) = 0 by decide), if_neg (show ¬ (2 : Int32) = 1 by decide), if_pos rfl]
  exact RB.hx (RB.cx H (fun z => W_log_x H.1 h) hc) (fun s1 c1 d1 d2 => RB.ret c1 d2)
theorem A_addPerson (hF : 5000 ≤ F) (H : CL s w A) (h8 : vn w < 8) : RB (f_L_act F Z s 3 0 0 0 0) (io (vn w)) s (ct s) (vy w, vL w, vm w, vn w + 1, vR w, vt w, vk w) A := by
  rw [f_L_act, if_neg (show ¬ (3 : Int32) = 0 by decide), if_neg (show ¬ (3 : Int32) = 1 by decide), if_neg (show ¬ (3 : Int32) = 2 by decide), if_pos rfl]
  refine RB.hok (RB.c0 H (⟨_, W_addPerson H.1 h8⟩)) (fun s1 c1 d1 d2 => ?_)
  exact RB.ret c1 d2
theorem A_off (hF : 5000 ≤ F) (H : CL s w A) {p j : Nat} (hp : p < vn w) (h1 : yh (vy w) / 8 < j) (h2 : j < 126) : RB (f_L_act F Z s 4 (io p) (io j) 0 0) (io (if (gof (yg (vy w)) j ^^^ 2 ^ p).testBit p then 1 else 0)) s (ct s) (yg' (vy w) (goff (yg (vy w)) p j), vL w, vm w, vn w, vR w, vt w, vk w) A := by
  rw [f_L_act, if_neg (show ¬ (4 : Int32) = 0 by decide), if_neg (show ¬ (4 : Int32) = 1 by decide), if_neg (show ¬ (4 : Int32) = 2 by decide), if_neg (show ¬ (4 : Int32) = 3 by decide), if_pos rfl]
  refine RB.hok (RB.c0 H (W_off H.1 hp h1 h2)) (fun s1 c1 d1 d2 => ?_)
  by_cases hb : (gof (yg (vy w)) j ^^^ 2 ^ p).testBit p = true
  · simp only [hb, if_true]
    exact RB.ret c1 d2
  · simp only [hb, if_false]
    exact RB.ret c1 d2
theorem A_off_x2 (hF : 5000 ≤ F) (H : CL s w A) (hc : ct s < Z) {x y : Int32} (h : ¬ (io 0 ≤ x ∧ x < io (vn w))) : RB (f_L_act F Z s 4 x y 0 0) (-1241) s (ct s + 1) w A := by
  rw [f_L_act, if_neg (show ¬ (4 : Int32) = 0 by decide), if_neg (show ¬ (4 : Int32) = 1 by decide), if_neg (show ¬ (4 : Int32) = 2 by decide), if_neg (show ¬ (4 : Int32) = 3 by decide), if_pos rfl]
  exact RB.hx (RB.cx H (fun z => W_off_x2 H.1 h) hc) (fun s1 c1 d1 d2 => RB.ret c1 d2)
theorem A_off_x0 (hF : 5000 ≤ F) (H : CL s w A) (hc : ct s < Z) {p : Nat} {y : Int32} (hp : p < vn w) (h : ¬ (io (yh (vy w) / 8) < y ∧ y < io 126)) : RB (f_L_act F Z s 4 (io p) y 0 0) (-1242) s (ct s + 1) w A := by
  rw [f_L_act, if_neg (show ¬ (4 : Int32) = 0 by decide), if_neg (show ¬ (4 : Int32) = 1 by decide), if_neg (show ¬ (4 : Int32) = 2 by decide), if_neg (show ¬ (4 : Int32) = 3 by decide), if_pos rfl]
  exact RB.hx (RB.cx H (fun z => W_off_x0 H.1 hp h) hc) (fun s1 c1 d1 d2 => RB.ret c1 d2)
theorem A_addRule (hF : 5000 ≤ F) (H : CL s w A) (hc : ct s < Z) {pw y v : Nat} (hp : pw < vn w) (hy1 : 1 ≤ y) (hy2 : y ≤ 72) (hv : v ≤ 72) {cq : List QT} (hq : ques (vt w) (vk w) = some cq) (hR4 : vR w < 4) : ∃ q0, RB (f_L_act F Z s 5 (io pw) (io y) (io v) 0) (io (vR w)) s (ct s + 1) (wnew w q0 cq pw y v) A := by
  obtain ⟨s', q0, h⟩ := W_addRule (Z := sz s + 64) hF H.1 (by omega) hp hy1 hy2 hv hq hR4
  refine ⟨q0, ?_⟩
  rw [f_L_act, if_neg (show ¬ (5 : Int32) = 0 by decide), if_neg (show ¬ (5 : Int32) = 1 by decide), if_neg (show ¬ (5 : Int32) = 2 by decide), if_neg (show ¬ (5 : Int32) = 3 by decide), if_neg (show ¬ (5 : Int32) = 4 by decide), if_pos rfl]
  exact RB.hok (RB.dd H hc ⟨s', h⟩) (fun s1 c1 d1 d2 => RB.ret c1 d2)
theorem A_addRule_x2 (hF : 5000 ≤ F) (H : CL s w A) (hc : ct s < Z) {x y v : Int32} (h : ¬ (io 0 ≤ x ∧ x < io (vn w))) : RB (f_L_act F Z s 5 x y v 0) (-1241) s (ct s + 1) w A := by
  rw [f_L_act, if_neg (show ¬ (5 : Int32) = 0 by decide), if_neg (show ¬ (5 : Int32) = 1 by decide), if_neg (show ¬ (5 : Int32) = 2 by decide), if_neg (show ¬ (5 : Int32) = 3 by decide), if_neg (show ¬ (5 : Int32) = 4 by decide), if_pos rfl]
  exact RB.hx (RB.dx H (fun z => W_addRule_x2 H.1 h) hc) (fun s1 c1 d1 d2 => RB.ret c1 d2)
theorem A_addRule_x0 (hF : 5000 ≤ F) (H : CL s w A) (hc : ct s < Z) {x y v : Int32} (h : io 0 ≤ x ∧ x < io (vn w)) (h2 : (y < io 1 ∨ io 72 < y) ∨ (¬ (y < io 1 ∨ io 72 < y) ∧ (v < io 0 ∨ io 72 < v))) : RB (f_L_act F Z s 5 x y v 0) (-1242) s (ct s + 1) w A := by
  rw [f_L_act, if_neg (show ¬ (5 : Int32) = 0 by decide), if_neg (show ¬ (5 : Int32) = 1 by decide), if_neg (show ¬ (5 : Int32) = 2 by decide), if_neg (show ¬ (5 : Int32) = 3 by decide), if_neg (show ¬ (5 : Int32) = 4 by decide), if_pos rfl]
  exact RB.hx (RB.dx H (fun z => W_addRule_x0 H.1 h h2) hc) (fun s1 c1 d1 d2 => RB.ret c1 d2)
theorem A_addRule_x1 (hF : 5000 ≤ F) (H : CL s w A) (hc : ct s < Z) {pw y v : Nat} (hp : pw < vn w) (hy1 : 1 ≤ y) (hy2 : y ≤ 72) (hv : v ≤ 72) (h : ques (vt w) (vk w) = none ∨ vR w = 4) : RB (f_L_act F Z s 5 (io pw) (io y) (io v) 0) (-1243) s (ct s + 1) w A := by
  rw [f_L_act, if_neg (show ¬ (5 : Int32) = 0 by decide), if_neg (show ¬ (5 : Int32) = 1 by decide), if_neg (show ¬ (5 : Int32) = 2 by decide), if_neg (show ¬ (5 : Int32) = 3 by decide), if_neg (show ¬ (5 : Int32) = 4 by decide), if_pos rfl]
  exact RB.hx (RB.dd H hc (W_addRule_x1 hF H.1 (by omega) hp hy1 hy2 hv h)) (fun s1 c1 d1 d2 => RB.ret c1 d2)
theorem A_drop (hF : 5000 ≤ F) (H : CL s w A) {r : Nat} (hr : r < vR w) (hd : ud (yu (vy w) r) = 0) : RB (f_L_act F Z s 6 (io r) 0 0 0) (io (un (yu (vy w) r))) s (ct s) (yu' (vy w) (ups (yu (vy w)) r (uDrop (yu (vy w) r) (yh (vy w)))), vL w, vm w, vn w, vR w, vt w, vk w) A := by
  rw [f_L_act, if_neg (show ¬ (6 : Int32) = 0 by decide), if_neg (show ¬ (6 : Int32) = 1 by decide), if_neg (show ¬ (6 : Int32) = 2 by decide), if_neg (show ¬ (6 : Int32) = 3 by decide), if_neg (show ¬ (6 : Int32) = 4 by decide), if_neg (show ¬ (6 : Int32) = 5 by decide), if_pos rfl]
  refine RB.hok (RB.c0 H (W_drop H.1 hr hd)) (fun s1 c1 d1 d2 => ?_)
  exact RB.ret c1 d2
theorem A_drop_x1 (hF : 5000 ≤ F) (H : CL s w A) (hc : ct s < Z) {r : Nat} (hr : r < vR w) (hd : ¬ ud (yu (vy w) r) = 0) : RB (f_L_act F Z s 6 (io r) 0 0 0) (-1243) s (ct s + 1) w A := by
  rw [f_L_act, if_neg (show ¬ (6 : Int32) = 0 by decide), if_neg (show ¬ (6 : Int32) = 1 by decide), if_neg (show ¬ (6 : Int32) = 2 by decide), if_neg (show ¬ (6 : Int32) = 3 by decide), if_neg (show ¬ (6 : Int32) = 4 by decide), if_neg (show ¬ (6 : Int32) = 5 by decide), if_pos rfl]
  exact RB.hx (RB.cx H (fun z => W_drop_x H.1 hr hd) hc) (fun s1 c1 d1 d2 => RB.ret c1 d2)
theorem A_drop_x2 (hF : 5000 ≤ F) (H : CL s w A) (hc : ct s < Z) {x : Int32} (hx : ¬ ∃ r, r < vR w ∧ x = io r) : RB (f_L_act F Z s 6 x 0 0 0) (-1241) s (ct s + 1) w A := by
  rw [f_L_act, if_neg (show ¬ (6 : Int32) = 0 by decide), if_neg (show ¬ (6 : Int32) = 1 by decide), if_neg (show ¬ (6 : Int32) = 2 by decide), if_neg (show ¬ (6 : Int32) = 3 by decide), if_neg (show ¬ (6 : Int32) = 4 by decide), if_neg (show ¬ (6 : Int32) = 5 by decide), if_pos rfl]
  exact RB.hx (RB.cx H (fun z => (W_rule_x (y := 0) (v := 0) H.1 hx).2.2.2.1) hc) (fun s1 c1 d1 d2 => RB.ret c1 d2)
theorem A_silence (hF : 5000 ≤ F) (H : CL s w A) {r a b : Nat} (hr : r < vR w) (hla : yh (vy w) + 1 ≤ a) (hab : a ≤ b) (hb : b ≤ 1000) (h5 : (us (yu (vy w) r)).length < 5) : RB (f_L_act F Z s 7 (io r) (io a) (io b) 0) (io ((us (yu (vy w) r)).length + 1)) s (ct s) (yu' (vy w) (ups (yu (vy w)) r (uSil (yu (vy w) r) a b)), vL w, vm w, vn w, vR w, vt w, vk w) A := by
  rw [f_L_act, if_neg (show ¬ (7 : Int32) = 0 by decide), if_neg (show ¬ (7 : Int32) = 1 by decide), if_neg (show ¬ (7 : Int32) = 2 by decide), if_neg (show ¬ (7 : Int32) = 3 by decide), if_neg (show ¬ (7 : Int32) = 4 by decide), if_neg (show ¬ (7 : Int32) = 5 by decide), if_neg (show ¬ (7 : Int32) = 6 by decide), if_pos rfl]
  refine RB.hok (RB.c0 H (W_silence H.1 hr hla hab hb h5)) (fun s1 c1 d1 d2 => ?_)
  exact RB.ret c1 d2
theorem A_silence_x0 (hF : 5000 ≤ F) (H : CL s w A) (hc : ct s < Z) {r : Nat} {a b : Int32} (hr : r < vR w) (h : (a < io (yh (vy w) + 1) ∨ io 1000 < a) ∨ (¬ (a < io (yh (vy w) + 1) ∨ io 1000 < a) ∧ (b < a ∨ io 1000 < b))) : RB (f_L_act F Z s 7 (io r) a b 0) (-1242) s (ct s + 1) w A := by
  rw [f_L_act, if_neg (show ¬ (7 : Int32) = 0 by decide), if_neg (show ¬ (7 : Int32) = 1 by decide), if_neg (show ¬ (7 : Int32) = 2 by decide), if_neg (show ¬ (7 : Int32) = 3 by decide), if_neg (show ¬ (7 : Int32) = 4 by decide), if_neg (show ¬ (7 : Int32) = 5 by decide), if_neg (show ¬ (7 : Int32) = 6 by decide), if_pos rfl]
  exact RB.hx (RB.cx H (fun z => (W_silence_x H.1 hr).1 h) hc) (fun s1 c1 d1 d2 => RB.ret c1 d2)
theorem A_silence_x1 (hF : 5000 ≤ F) (H : CL s w A) (hc : ct s < Z) {r : Nat} {a b : Int32} (hr : r < vR w) (h1 : ¬ (a < io (yh (vy w) + 1) ∨ io 1000 < a)) (h2 : ¬ (b < a ∨ io 1000 < b)) (h5 : (us (yu (vy w) r)).length = 5) : RB (f_L_act F Z s 7 (io r) a b 0) (-1243) s (ct s + 1) w A := by
  rw [f_L_act, if_neg (show ¬ (7 : Int32) = 0 by decide), if_neg (show ¬ (7 : Int32) = 1 by decide), if_neg (show ¬ (7 : Int32) = 2 by decide), if_neg (show ¬ (7 : Int32) = 3 by decide), if_neg (show ¬ (7 : Int32) = 4 by decide), if_neg (show ¬ (7 : Int32) = 5 by decide), if_neg (show ¬ (7 : Int32) = 6 by decide), if_pos rfl]
  exact RB.hx (RB.cx H (fun z => (W_silence_x H.1 hr).2 h1 h2 h5) hc) (fun s1 c1 d1 d2 => RB.ret c1 d2)
theorem A_silence_x2 (hF : 5000 ≤ F) (H : CL s w A) (hc : ct s < Z) {x a b : Int32} (hx : ¬ ∃ r, r < vR w ∧ x = io r) : RB (f_L_act F Z s 7 x a b 0) (-1241) s (ct s + 1) w A := by
  rw [f_L_act, if_neg (show ¬ (7 : Int32) = 0 by decide), if_neg (show ¬ (7 : Int32) = 1 by decide), if_neg (show ¬ (7 : Int32) = 2 by decide), if_neg (show ¬ (7 : Int32) = 3 by decide), if_neg (show ¬ (7 : Int32) = 4 by decide), if_neg (show ¬ (7 : Int32) = 5 by decide), if_neg (show ¬ (7 : Int32) = 6 by decide), if_pos rfl]
  exact RB.hx (RB.cx H (fun z => (W_rule_x H.1 hx).2.2.2.2) hc) (fun s1 c1 d1 d2 => RB.ret c1 d2)
theorem A_answer (H : CL s w A) {i : Nat} (hi : i < yc (vy w)) (hiw : i < yw (vy w)) (ha : xa (ya (vy w)) i = 0) {vx : Int32} (vv : vx = io 0 ∨ vx = io 1) (hv : ¬ (vx = io 1 ∧ xu (ya (vy w)) i / 8 % 3 = 0 ∧ uo (yu (vy w) (xq (ya (vy w)) i)) ≠ xp (ya (vy w)) i - 1)) : RB (f_L_act F Z s 8 (io i) vx 0 0) (io (yd (vy w))) s (ct s) (yan (vy w) i, vL w, vm w, vn w, vR w, vt w, vk w) A := by
  rw [f_L_act, if_neg (show ¬ (8 : Int32) = 0 by decide), if_neg (show ¬ (8 : Int32) = 1 by decide), if_neg (show ¬ (8 : Int32) = 2 by decide), if_neg (show ¬ (8 : Int32) = 3 by decide), if_neg (show ¬ (8 : Int32) = 4 by decide), if_neg (show ¬ (8 : Int32) = 5 by decide), if_neg (show ¬ (8 : Int32) = 6 by decide), if_neg (show ¬ (8 : Int32) = 7 by decide)]
  have h := W_answer (F := F) (Z := sz s) H.1 hi hiw ha vv hv
  rcases vv with rfl | rfl
  · rw [if_neg (show ¬ (io 0 : Int32) = 1 by decide)]
    exact RB.hok (RB.c0 H ⟨_, h⟩) (fun s1 c1 d1 d2 => RB.ret c1 d2)
  · rw [if_pos (show (io 1 : Int32) = 1 from rfl)]
    exact RB.hok (RB.c0 H ⟨_, h⟩) (fun s1 c1 d1 d2 => RB.ret c1 d2)
theorem A_answer_d (H : CL s w A) {i : Nat} (hi : i < yc (vy w)) (hiw : i < yw (vy w)) (ha : xa (ya (vy w)) i = 0) (hd : yd (vy w) < 4000) (hnight : xu (ya (vy w)) i / 8 % 3 = 0) (hown : uo (yu (vy w) (xq (ya (vy w)) i)) ≠ xp (ya (vy w)) i - 1) : RB (f_L_act F Z s 8 (io i) (io 1) 0 0) (io (yd (vy w) + 1)) s (ct s) (yow (vy w) i (uo (yu (vy w) (xq (ya (vy w)) i))) (xp (ya (vy w)) i - 1), vL w, vm w, vn w, vR w, vt w, vk w) A := by
  rw [f_L_act, if_neg (show ¬ (8 : Int32) = 0 by decide), if_neg (show ¬ (8 : Int32) = 1 by decide), if_neg (show ¬ (8 : Int32) = 2 by decide), if_neg (show ¬ (8 : Int32) = 3 by decide), if_neg (show ¬ (8 : Int32) = 4 by decide), if_neg (show ¬ (8 : Int32) = 5 by decide), if_neg (show ¬ (8 : Int32) = 6 by decide), if_neg (show ¬ (8 : Int32) = 7 by decide)]
  rw [if_pos (show (io 1 : Int32) = 1 from rfl)]
  exact RB.hok (RB.c0 H (W_answer_d H.1 hi hiw ha hd hnight hown)) (fun s1 c1 d1 d2 => RB.ret c1 d2)
theorem A_answer_x2 (H : CL s w A) (hc : ct s < Z) {x vx : Int32} (h : ¬ ∃ i, i < yc (vy w) ∧ x = io i) : RB (f_L_act F Z s 8 x vx 0 0) (-1241) s (ct s + 1) w A := by
  rw [f_L_act, if_neg (show ¬ (8 : Int32) = 0 by decide), if_neg (show ¬ (8 : Int32) = 1 by decide), if_neg (show ¬ (8 : Int32) = 2 by decide), if_neg (show ¬ (8 : Int32) = 3 by decide), if_neg (show ¬ (8 : Int32) = 4 by decide), if_neg (show ¬ (8 : Int32) = 5 by decide), if_neg (show ¬ (8 : Int32) = 6 by decide), if_neg (show ¬ (8 : Int32) = 7 by decide)]
  by_cases c : vx = 1
  · rw [if_pos c]
    exact RB.hx (RB.cx H (fun z => (W_alarm_x H.1 h).2.2.2.2) hc) (fun s1 c1 d1 d2 => RB.ret c1 d2)
  · rw [if_neg c]
    exact RB.hx (RB.cx H (fun z => (W_alarm_x H.1 h).2.2.2.2) hc) (fun s1 c1 d1 d2 => RB.ret c1 d2)
theorem A_answer_x1 (H : CL s w A) (hc : ct s < Z) {i : Nat} {vx : Int32} (h1 : i < yc (vy w)) (h2 : ¬ i < yw (vy w) ∨ xa (ya (vy w)) i = 1) : RB (f_L_act F Z s 8 (io i) vx 0 0) (-1243) s (ct s + 1) w A := by
  rw [f_L_act, if_neg (show ¬ (8 : Int32) = 0 by decide), if_neg (show ¬ (8 : Int32) = 1 by decide), if_neg (show ¬ (8 : Int32) = 2 by decide), if_neg (show ¬ (8 : Int32) = 3 by decide), if_neg (show ¬ (8 : Int32) = 4 by decide), if_neg (show ¬ (8 : Int32) = 5 by decide), if_neg (show ¬ (8 : Int32) = 6 by decide), if_neg (show ¬ (8 : Int32) = 7 by decide)]
  by_cases c : vx = 1
  · rw [if_pos c]
    exact RB.hx (RB.cx H (fun z => W_answer_x H.1 h1 h2) hc) (fun s1 c1 d1 d2 => RB.ret c1 d2)
  · rw [if_neg c]
    exact RB.hx (RB.cx H (fun z => W_answer_x H.1 h1 h2) hc) (fun s1 c1 d1 d2 => RB.ret c1 d2)
theorem A_swap (H : CL s w A) {i j a b : Nat} (hi : yh (vy w) / 8 < i) (hi2 : i < 126) (hj : yh (vy w) / 8 < j) (hj2 : j < 126) (hij : i ≠ j) (ha : a < vn w) (hb : b < vn w) (e1 : plan2 (yg (vy w)) (vn w) i = io a) (e2 : plan2 (yg (vy w)) (vn w) j = io b) (hab : a ≠ b) (o1 : ofb (yg (vy w)) a j = io 0) (o2 : ofb (yg (vy w)) b i = io 0) : RB (f_L_swapped F Z s (io i) (io j)) 0 s (ct s) (yg' (vy w) (gswp (yg (vy w)) i j a b), vL w, vm w, vn w, vR w, vt w, vk w) A := by
  rw [f_L_swapped]
  exact RB.hok (RB.c0 H (W_swap H.1 hi hi2 hj hj2 hij ha hb e1 e2 hab o1 o2)) (fun s1 c1 d1 d2 => RB.ret c1 d2)
theorem A_swap_x0 (H : CL s w A) (hc : ct s < Z) {x y : Int32} (h : ¬ (io (yh (vy w) / 8) < x ∧ x < io 126) ∨ ¬ (io (yh (vy w) / 8) < y ∧ y < io 126) ∨ x = y) : RB (f_L_swapped F Z s x y) (-1242) s (ct s + 1) w A := by
  rw [f_L_swapped]
  exact RB.hx (RB.cx H (fun z => W_swap_x0 H.1 h) hc) (fun s1 c1 d1 d2 => RB.ret c1 d2)
theorem A_swap_x1 (H : CL s w A) (hc : ct s < Z) {i j : Nat} (hi : yh (vy w) / 8 < i) (hi2 : i < 126) (hj : yh (vy w) / 8 < j) (hj2 : j < 126) (hij : i ≠ j)
    (h : vn w = 0 ∨ ∃ a b, a < vn w ∧ b < vn w ∧ plan2 (yg (vy w)) (vn w) i = io a ∧ plan2 (yg (vy w)) (vn w) j = io b ∧ (a = b ∨ ofb (yg (vy w)) a j = io 1 ∨ ofb (yg (vy w)) b i = io 1)) : RB (f_L_swapped F Z s (io i) (io j)) (-1243) s (ct s + 1) w A := by
  rw [f_L_swapped]
  exact RB.hx (RB.cx H (fun z => W_swap_x1 H.1 hi hi2 hj hj2 hij h) hc) (fun s1 c1 d1 d2 => RB.ret c1 d2)
theorem A_told (hF : 5000 ≤ F) (H : CL s w A) (hc : ct s < Z) {a b : Nat} (hab : a ≤ b) (hb : b ≤ yh (vy w)) {c : List QT} (hq : ques (vt w) (vk w) = some c) (x : Int32) : RB (f_L_told F Z s x (io a) (io b)) (valQ (wev w a b) c) s (ct s + 1) w A := by
  rw [f_L_told]
  by_cases e : x = 0
  · rw [if_pos e]
    exact RB.hok (RB.dd H hc (W_ask hF H.1 (by omega) hab hb hq)) (fun s1 c1 d1 d2 => RB.ret c1 d2)
  · rw [if_neg e]
    exact RB.hok (RB.dd H hc (W_askC hF H.1 (by omega) hab hb hq)) (fun s1 c1 d1 d2 => RB.ret c1 d2)
theorem A_told_n (hF : 5000 ≤ F) (H : CL s w A) (hc : ct s < Z) {a b : Nat} (hab : a ≤ b) (hb : b ≤ yh (vy w)) (hq : ques (vt w) (vk w) = none) (x : Int32) : RB (f_L_told F Z s x (io a) (io b)) (-124300000000) s (ct s + 1) w A := by
  rw [f_L_told]
  obtain ⟨s', e1, e2, e3⟩ := W_ask_n (Z := sz s + 64) hF H.1 (by omega) hab hb hq
  by_cases e : x = 0
  · rw [if_pos e]
    exact RB.hx (RB.dd H hc ⟨s', e1, e3⟩) (fun s1 c1 d1 d2 => RB.ret c1 d2)
  · rw [if_neg e]
    exact RB.hx (RB.dd H hc ⟨s', e2, e3⟩) (fun s1 c1 d1 d2 => RB.ret c1 d2)
theorem A_told_r (H : CL s w A) (hc : ct s < Z) {a b : Int32} (h : (a < io 0 ∨ io (yh (vy w)) < a) ∨ (¬ (a < io 0 ∨ io (yh (vy w)) < a) ∧ (b < a ∨ io (yh (vy w)) < b))) (x : Int32) : RB (f_L_told F Z s x a b) (-124200000000) s (ct s + 1) w A := by
  rw [f_L_told]
  by_cases e : x = 0
  · rw [if_pos e]
    exact RB.hx (RB.dx H (fun z => (W_ask_r H.1 h).1) hc) (fun s1 c1 d1 d2 => RB.ret c1 d2)
  · rw [if_neg e]
    exact RB.hx (RB.dx H (fun z => (W_ask_r H.1 h).2) hc) (fun s1 c1 d1 d2 => RB.ret c1 d2)
theorem O_planned_x (hF : 5000 ≤ F) (H : CL s w A) (hc : ct s < Z) {x : Int32} (h : ¬ (io (yh (vy w) / 8) < x ∧ x < io 126)) : RB (f_L_of F Z s 0 x 0) (-1242) s (ct s + 1) w A := by
  rw [f_L_of, if_pos rfl]
  exact RB.hx (RB.cx H (fun z => W_planned_x H.1 h) hc) (fun s1 c1 d1 d2 => RB.ret c1 d2)
theorem O_holder_x (hF : 5000 ≤ F) (H : CL s w A) (hc : ct s < Z) {x : Int32} (h : x < io 0 ∨ io (yh (vy w) / 8) < x) : RB (f_L_of F Z s 1 x 0) (-1242) s (ct s + 1) w A := by
  rw [f_L_of, if_neg (show ¬ (1 : Int32) = 0 by decide), if_pos rfl]
  exact RB.hx (RB.cx H (fun z => W_holder_x H.1 h) hc) (fun s1 c1 d1 d2 => RB.ret c1 d2)
theorem O_nights_x (hF : 5000 ≤ F) (H : CL s w A) (hc : ct s < Z) {x : Int32} (h : ¬ (io 0 ≤ x ∧ x < io (vn w))) : RB (f_L_of F Z s 2 x 0) (-1241) s (ct s + 1) w A := by
  rw [f_L_of, if_neg (show ¬ (2 : Int32) = 0 by decide), if_neg (show ¬ (2 : Int32) = 1 by decide), if_pos rfl]
  exact RB.hx (RB.cx H (fun z => W_nights_x H.1 h) hc) (fun s1 c1 d1 d2 => RB.ret c1 d2)
theorem O_owes_x (hF : 5000 ≤ F) (H : CL s w A) (hc : ct s < Z) {x y : Int32} (h : ¬ (io 0 ≤ x ∧ x < io (vn w)) ∨ ¬ (io 0 ≤ y ∧ y < io (vn w))) : RB (f_L_of F Z s 3 x y) (-1241) s (ct s + 1) w A := by
  rw [f_L_of, if_neg (show ¬ (3 : Int32) = 0 by decide), if_neg (show ¬ (3 : Int32) = 1 by decide), if_neg (show ¬ (3 : Int32) = 2 by decide), if_pos rfl]
  exact RB.hx (RB.cx H (fun z => W_owes_x H.1 h) hc) (fun s1 c1 d1 d2 => RB.ret c1 d2)
theorem O_inWindow_x (hF : 5000 ≤ F) (H : CL s w A) (hc : ct s < Z) {x : Int32} (hx : ¬ ∃ r, r < vR w ∧ x = io r) : RB (f_L_of F Z s 4 x 0) (-1241) s (ct s + 1) w A := by
  rw [f_L_of, if_neg (show ¬ (4 : Int32) = 0 by decide), if_neg (show ¬ (4 : Int32) = 1 by decide), if_neg (show ¬ (4 : Int32) = 2 by decide), if_neg (show ¬ (4 : Int32) = 3 by decide), if_pos rfl]
  exact RB.hx (RB.cx H (fun z => (W_rule_x (y := 0) (v := 0) H.1 hx).1) hc) (fun s1 c1 d1 d2 => RB.ret c1 d2)
theorem O_rises_x (hF : 5000 ≤ F) (H : CL s w A) (hc : ct s < Z) {x : Int32} (hx : ¬ ∃ r, r < vR w ∧ x = io r) : RB (f_L_of F Z s 5 x 0) (-1241) s (ct s + 1) w A := by
  rw [f_L_of, if_neg (show ¬ (5 : Int32) = 0 by decide), if_neg (show ¬ (5 : Int32) = 1 by decide), if_neg (show ¬ (5 : Int32) = 2 by decide), if_neg (show ¬ (5 : Int32) = 3 by decide), if_neg (show ¬ (5 : Int32) = 4 by decide), if_pos rfl]
  exact RB.hx (RB.cx H (fun z => (W_rule_x (y := 0) (v := 0) H.1 hx).2.1) hc) (fun s1 c1 d1 d2 => RB.ret c1 d2)
theorem O_risesAnew_x (hF : 5000 ≤ F) (H : CL s w A) (hc : ct s < Z) {x : Int32} (hx : ¬ ∃ r, r < vR w ∧ x = io r) : RB (f_L_of F Z s 6 x 0) (-1241) s (ct s + 1) w A := by
  rw [f_L_of, if_neg (show ¬ (6 : Int32) = 0 by decide), if_neg (show ¬ (6 : Int32) = 1 by decide), if_neg (show ¬ (6 : Int32) = 2 by decide), if_neg (show ¬ (6 : Int32) = 3 by decide), if_neg (show ¬ (6 : Int32) = 4 by decide), if_neg (show ¬ (6 : Int32) = 5 by decide), if_pos rfl]
  exact RB.hx (RB.cx H (fun z => (W_rule_x (y := 0) (v := 0) H.1 hx).2.2.1) hc) (fun s1 c1 d1 d2 => RB.ret c1 d2)
theorem O_alarm_x (hF : 5000 ≤ F) (H : CL s w A) (hc : ct s < Z) {x : Int32} (hx : ¬ ∃ r, r < yc (vy w) ∧ x = io r) : RB (f_L_of F Z s 7 x 0) (-1241) s (ct s + 1) w A := by
  rw [f_L_of, if_neg (show ¬ (7 : Int32) = 0 by decide), if_neg (show ¬ (7 : Int32) = 1 by decide), if_neg (show ¬ (7 : Int32) = 2 by decide), if_neg (show ¬ (7 : Int32) = 3 by decide), if_neg (show ¬ (7 : Int32) = 4 by decide), if_neg (show ¬ (7 : Int32) = 5 by decide), if_neg (show ¬ (7 : Int32) = 6 by decide), if_pos rfl]
  exact RB.hx (RB.cx H (fun z => (W_alarm_x (y := 0) H.1 hx).1) hc) (fun s1 c1 d1 d2 => RB.ret c1 d2)
theorem O_woken_x (hF : 5000 ≤ F) (H : CL s w A) (hc : ct s < Z) {x : Int32} (hx : ¬ ∃ r, r < yc (vy w) ∧ x = io r) : RB (f_L_of F Z s 8 x 0) (-1241) s (ct s + 1) w A := by
  rw [f_L_of, if_neg (show ¬ (8 : Int32) = 0 by decide), if_neg (show ¬ (8 : Int32) = 1 by decide), if_neg (show ¬ (8 : Int32) = 2 by decide), if_neg (show ¬ (8 : Int32) = 3 by decide), if_neg (show ¬ (8 : Int32) = 4 by decide), if_neg (show ¬ (8 : Int32) = 5 by decide), if_neg (show ¬ (8 : Int32) = 6 by decide), if_neg (show ¬ (8 : Int32) = 7 by decide), if_pos rfl]
  exact RB.hx (RB.cx H (fun z => (W_alarm_x (y := 0) H.1 hx).2.1) hc) (fun s1 c1 d1 d2 => RB.ret c1 d2)
theorem O_wokenAt_x (hF : 5000 ≤ F) (H : CL s w A) (hc : ct s < Z) {x : Int32} (hx : ¬ ∃ r, r < yc (vy w) ∧ x = io r) : RB (f_L_of F Z s 9 x 0) (-1241) s (ct s + 1) w A := by
  rw [f_L_of, if_neg (show ¬ (9 : Int32) = 0 by decide), if_neg (show ¬ (9 : Int32) = 1 by decide), if_neg (show ¬ (9 : Int32) = 2 by decide), if_neg (show ¬ (9 : Int32) = 3 by decide), if_neg (show ¬ (9 : Int32) = 4 by decide), if_neg (show ¬ (9 : Int32) = 5 by decide), if_neg (show ¬ (9 : Int32) = 6 by decide), if_neg (show ¬ (9 : Int32) = 7 by decide), if_neg (show ¬ (9 : Int32) = 8 by decide), if_pos rfl]
  exact RB.hx (RB.cx H (fun z => (W_alarm_x (y := 0) H.1 hx).2.2.1) hc) (fun s1 c1 d1 d2 => RB.ret c1 d2)
theorem O_wouldRise_x (hF : 5000 ≤ F) (H : CL s w A) (hc : ct s < Z) {x : Int32} (hx : ¬ ∃ r, r < yc (vy w) ∧ x = io r) : RB (f_L_of F Z s 10 x 0) (-1241) s (ct s + 1) w A := by
  rw [f_L_of, if_neg (show ¬ (10 : Int32) = 0 by decide), if_neg (show ¬ (10 : Int32) = 1 by decide), if_neg (show ¬ (10 : Int32) = 2 by decide), if_neg (show ¬ (10 : Int32) = 3 by decide), if_neg (show ¬ (10 : Int32) = 4 by decide), if_neg (show ¬ (10 : Int32) = 5 by decide), if_neg (show ¬ (10 : Int32) = 6 by decide), if_neg (show ¬ (10 : Int32) = 7 by decide), if_neg (show ¬ (10 : Int32) = 8 by decide), if_neg (show ¬ (10 : Int32) = 9 by decide)]
  exact RB.hx (RB.cx H (fun z => (W_alarm_x (y := 0) H.1 hx).2.2.2.1) hc) (fun s1 c1 d1 d2 => RB.ret c1 d2)
theorem O_wokenAt_x3 (hF : 5000 ≤ F) (H : CL s w A) (hc : ct s < Z) {i : Nat} (hi : i < yc (vy w)) (h : ¬ i < yw (vy w)) : RB (f_L_of F Z s 9 (io i) 0) (-1244) s (ct s + 1) w A := by
  rw [f_L_of, if_neg (show ¬ (9 : Int32) = 0 by decide), if_neg (show ¬ (9 : Int32) = 1 by decide), if_neg (show ¬ (9 : Int32) = 2 by decide), if_neg (show ¬ (9 : Int32) = 3 by decide), if_neg (show ¬ (9 : Int32) = 4 by decide), if_neg (show ¬ (9 : Int32) = 5 by decide), if_neg (show ¬ (9 : Int32) = 6 by decide), if_neg (show ¬ (9 : Int32) = 7 by decide), if_neg (show ¬ (9 : Int32) = 8 by decide), if_pos rfl]
  exact RB.hx (RB.cx H (fun z => W_wokenAt_x H.1 hi h) hc) (fun s1 c1 d1 d2 => RB.ret c1 d2)
theorem O_wokenAt (H : CL s w A) {i : Nat} (hi : i < yc (vy w)) (h : i < yw (vy w)) : RB (f_L_of F Z s 9 (io i) 0) (io (xu (ya (vy w)) i)) s (ct s) w A := by
  rw [f_L_of, if_neg (show ¬ (9 : Int32) = 0 by decide), if_neg (show ¬ (9 : Int32) = 1 by decide), if_neg (show ¬ (9 : Int32) = 2 by decide), if_neg (show ¬ (9 : Int32) = 3 by decide), if_neg (show ¬ (9 : Int32) = 4 by decide), if_neg (show ¬ (9 : Int32) = 5 by decide), if_neg (show ¬ (9 : Int32) = 6 by decide), if_neg (show ¬ (9 : Int32) = 7 by decide), if_neg (show ¬ (9 : Int32) = 8 by decide), if_pos rfl]
  exact RB.hok (RB.cr H (W_wokenAt H.1 hi h)) (fun s1 c1 d1 d2 => RB.ret c1 d2)
theorem O_risesAnew (hF : 5000 ≤ F) (H : CL s w A) {r : Nat} (hr : r < vR w) : RB (f_L_of F Z s 6 (io r) 0) (io (un (yu (vy w) r))) s (ct s) w A := by
  rw [f_L_of, if_neg (show ¬ (6 : Int32) = 0 by decide), if_neg (show ¬ (6 : Int32) = 1 by decide), if_neg (show ¬ (6 : Int32) = 2 by decide), if_neg (show ¬ (6 : Int32) = 3 by decide), if_neg (show ¬ (6 : Int32) = 4 by decide), if_neg (show ¬ (6 : Int32) = 5 by decide), if_pos rfl]
  refine RB.hok (RB.c0 H (W_risesAnew hF H.1 hr)) (fun s1 c1 d1 d2 => ?_)
  exact RB.ret c1 d2
end AC
