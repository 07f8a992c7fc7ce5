/-! a value: its text is typed, and run -/
theorem md9 {a : Nat} (b : Nat) (ha : a < 2147483648) (hb : b < 2147483648) : io a - io a / io b * io b = io (a % b) := by
  rw [io_div ha hb, io_mul]; exact io_modE a b
section VA
variable {F Z : Nat} {s : St} {w : WD} {A : LA} {l : List Nat} {cq : List QT} {a b x way : Nat}
theorem T_says (H : CL s (wtl w l) A) {c : Nat} (h1 : 32 ≤ c ∧ c ≤ 126) (hk : l.length < 40) (hZ : ct s ≤ Z) : RB (f_L_says F Z s (io c)) 1 s (ct s) (wtl w (l ++ [c])) A := by
  rw [f_L_says]
  refine RB.cal (T_type (F := F) (Z := Z) H h1.1 h1.2 hk) hZ (fun s1 c1 d1 d2 => ?_)
  dsimp only
  rw [if_neg (show ¬ io (l.length + 1) ≤ 0 from by
    show ¬ io (l.length + 1) ≤ io 0
    rw [io_le (by omega) (by omega)]; omega)]
  exact RB.ret c1 d2
theorem V450 (hF : 5000 ≤ F) (H : CL s (wtl w l) A) (hq : ques (txt l) l.length = some cq) (hab : a ≤ b) (hb : b ≤ yh (vy w)) (hZ : ct s + 2 ≤ Z) (t : Int32) : RB (f_L_value_b450 F Z s (io a) (io b) 1 t) (valQ (wev w a b) cq) s (ct s + 2) (wtl w l) A := by
  rw [f_L_value_b450]
  refine RB.cal (A_told (F := F) (Z := Z) hF H (by omega) hab hb hq t) (by omega) (fun s1 c1 d1 d2 => ?_)
  dsimp only
  rw [if_neg (show ¬ (1 : Int32) = 0 by decide)]
  have ee : errL l = -1 := by unfold errL; rw [hq]; rfl
  have h := T_err (F := F) (Z := Z) hF c1 (by omega)
  rw [ee] at h
  refine RB.tk h (fun s2 c2 d3 d4 => ?_)
  dsimp only
  rw [if_pos rfl]
  exact RB.ret c2 (by omega)
theorem V417 (hF : 5000 ≤ F) (H : CL s (wtl w l) A) (hl : l.length < 40) (hq : ques (txt (z417 l)) (z417 l).length = some cq) (hab : a ≤ b) (hb : b ≤ yh (vy w)) (hZ : ct s + 2 ≤ Z) : RB (f_L_value_b417 F Z s (io x) (io a) (io b) 1) (valQ (wev w a b) cq) s (ct s + 2) (wtl w (z417 l)) A := by
  have n1 : ¬ (1 : Int32) = 0 := by decide
  rw [f_L_value_b417, if_neg n1]
  refine RB.cal (T_says (F := F) (Z := Z) H (c := 41) (by decide) hl (by omega)) (by omega) (fun s1 c1 d1 d2 => ?_)
  dsimp only
  rw [if_neg n1]
  by_cases h : (io x - io x / 2 * 2) = 0
  · rw [if_pos h]; exact (V450 hF c1 hq hab hb (by omega) 1).le (by omega)
  · rw [if_neg h]; exact (V450 hF c1 hq hab hb (by omega) 0).le (by omega)
theorem V388 (hF : 5000 ≤ F) (H : CL s (wtl w l) A) (hl : l.length < 39) (hw : way < 3) (hq : ques (txt (z388 way l)) (z388 way l).length = some cq) (hab : a ≤ b) (hb : b ≤ yh (vy w)) (hZ : ct s + 2 ≤ Z) : RB (f_L_value_b388 F Z s (io x) (io way) (io a) (io b) 1) (valQ (wev w a b) cq) s (ct s + 2) (wtl w (z388 way l)) A := by
  have n1 : ¬ (1 : Int32) = 0 := by decide
  have e2 : (io way < (2 : Int32)) = (way < 2) := io_lt (a := way) (b := 2) (by omega) (by decide)
  rw [f_L_value_b388, if_neg n1]
  simp only [e2]
  unfold z388 at hq ⊢
  by_cases h : way < 2
  · rw [if_pos h] at hq ⊢
    rw [if_pos h]
    exact V417 hF H (by omega) hq hab hb hZ
  · rw [if_neg h] at hq ⊢
    rw [if_neg h]
    refine RB.cal (T_says (F := F) (Z := Z) H (c := 41) (by decide) (by omega) (by omega)) (by omega) (fun s1 c1 d1 d2 => ?_)
    dsimp only
    rw [if_neg n1]
    exact (V417 hF c1 (by rw [List.length_append]; show l.length + 1 < 40; omega) hq hab hb (by omega)).le (by omega)
theorem V350 (hF : 5000 ≤ F) (H : CL s (wtl w l) A) (hl : l.length < 30) (hw : way < 3) (hx : x < 100000000) {c : Nat} (hc : 32 ≤ c ∧ c ≤ 126) (hq : ques (txt (z388 way (l ++ [c] ++ [62] ++ [48 + x / 720 % 6]))) (z388 way (l ++ [c] ++ [62] ++ [48 + x / 720 % 6])).length = some cq) (hab : a ≤ b) (hb : b ≤ yh (vy w)) (hZ : ct s + 2 ≤ Z) : RB (f_L_value_b350 F Z s (io x) (io way) (io a) (io b) (io c)) (valQ (wev w a b) cq) s (ct s + 2) (wtl w (z388 way (l ++ [c] ++ [62] ++ [48 + x / 720 % 6]))) A := by
  have n1 : ¬ (1 : Int32) = 0 := by decide
  have e1 : (48 : Int32) + ((io x / 720) - (io x / 720) / 6 * 6) = io (48 + x / 720 % 6) := by
    have h1 : io x / 720 = io (x / 720) := io_div (by omega) (b := 720) (by omega)
    have h2 : io (x / 720) - io (x / 720) / 6 * 6 = io (x / 720 % 6) := md9 6 (by omega) (by omega)
    rw [h1, h2]; exact io_add 48 _
  have hm : x / 720 % 6 < 6 := Nat.mod_lt _ (by decide)
  rw [f_L_value_b350, e1]
  refine RB.cal (T_says (F := F) (Z := Z) H hc (by omega) (by omega)) (by omega) (fun s1 c1 d1 d2 => ?_)
  dsimp only
  rw [if_neg n1]
  refine RB.cal (T_says (F := F) (Z := Z) c1 (c := 62) (by decide) (by rw [List.length_append]; show l.length + 1 < 40; omega) (by omega)) (by omega) (fun s2 c2 d3 d4 => ?_)
  dsimp only
  rw [if_neg n1]
  refine RB.cal (T_says (F := F) (Z := Z) c2 (c := 48 + x / 720 % 6) (by omega) (by simp only [List.length_append]; show l.length + 1 + 1 < 40; omega) (by omega)) (by omega) (fun s3 c3 d5 d6 => ?_)
  dsimp only
  rw [if_neg n1]
  exact (V388 hF c3 (by simp only [List.length_append]; show l.length + 1 + 1 + 1 < 39; omega) hw hq hab hb (by omega)).le (by omega)
theorem V326 (hF : 5000 ≤ F) (H : CL s (wtl w l) A) (hl : l.length < 29) (hw : way < 3) (hx : x < 100000000) {c : Nat} (hc : 32 ≤ c ∧ c ≤ 126) (hq : ques (txt (z350 x way (l ++ [c]))) (z350 x way (l ++ [c])).length = some cq) (hab : a ≤ b) (hb : b ≤ yh (vy w)) (hZ : ct s + 2 ≤ Z) : RB (f_L_value_b326 F Z s (io x) (io way) (io a) (io b) (io c)) (valQ (wev w a b) cq) s (ct s + 2) (wtl w (z350 x way (l ++ [c]))) A := by
  have n1 : ¬ (1 : Int32) = 0 := by decide
  have e1 : (io x / 360) - (io x / 360) / 2 * 2 = io (x / 360 % 2) := by
    have h1 : io x / 360 = io (x / 360) := io_div (by omega) (b := 360) (by omega)
    rw [h1]; exact md9 2 (by omega) (by omega)
  have e2 : (io (x / 360 % 2) = 0) = (x / 360 % 2 = 0) := io_eq (a := (x / 360 % 2)) (b := 0) (by omega) (by decide)
  have hl1 : (l ++ [c]).length < 30 := by rw [List.length_append]; show l.length + 1 < 30; omega
  rw [f_L_value_b326, e1]
  simp only [e2]
  refine RB.cal (T_says (F := F) (Z := Z) H hc (by omega) (by omega)) (by omega) (fun s1 c1 d1 d2 => ?_)
  dsimp only
  rw [if_neg n1]
  unfold z350 fch at hq ⊢
  by_cases h : x / 360 % 2 = 0
  · simp only [h, if_true] at hq ⊢
    exact (V350 hF c1 hl1 hw hx (c := 112) (by decide) hq hab hb (by omega)).le (by omega)
  · have h1 : x / 360 % 2 = 1 := by omega
    simp only [h1, if_true, if_false, Nat.one_ne_zero] at hq ⊢
    exact (V350 hF c1 hl1 hw hx (c := 108) (by decide) hq hab hb (by omega)).le (by omega)
theorem V292 (hF : 5000 ≤ F) (H : CL s (wtl w l) A) (hl : l.length < 28) (hw : way < 3) (hx : x < 100000000) (hq : ques (txt (z292 x way l)) (z292 x way l).length = some cq) (hab : a ≤ b) (hb : b ≤ yh (vy w)) (hZ : ct s + 2 ≤ Z) : RB (f_L_value_b292 F Z s (io x) (io way) (io a) (io b) 1) (valQ (wev w a b) cq) s (ct s + 2) (wtl w (z292 x way l)) A := by
  have n1 : ¬ (1 : Int32) = 0 := by decide
  have e1 : (io x / 120) - (io x / 120) / 3 * 3 = io (x / 120 % 3) := by
    have h1 : io x / 120 = io (x / 120) := io_div (by omega) (b := 120) (by omega)
    rw [h1]; exact md9 3 (by omega) (by omega)
  have e2 : (io (x / 120 % 3) = 0) = (x / 120 % 3 = 0) := io_eq (a := (x / 120 % 3)) (b := 0) (by omega) (by decide)
  have e3 : (io (x / 120 % 3) = 1) = (x / 120 % 3 = 1) := io_eq (a := (x / 120 % 3)) (b := 1) (by omega) (by decide)
  rw [f_L_value_b292, if_neg n1, e1]
  simp only [e2, e3]
  unfold z292 at hq ⊢
  by_cases h : x / 120 % 3 = 0
  · rw [if_pos h] at hq ⊢
    rw [if_pos h]
    exact V388 hF H (by omega) hw hq hab hb hZ
  · rw [if_neg h] at hq ⊢
    rw [if_neg h]
    unfold och at hq ⊢
    by_cases h1 : x / 120 % 3 = 1
    · rw [if_pos h1] at hq ⊢
      rw [if_pos h1]
      exact V326 hF H (by omega) hw hx (c := 38) (by decide) hq hab hb hZ
    · rw [if_neg h1] at hq ⊢
      rw [if_neg h1]
      exact V326 hF H (by omega) hw hx (c := 124) (by decide) hq hab hb hZ
theorem V264 (hF : 5000 ≤ F) (H : CL s (wtl w l) A) (hl : l.length < 20) (hw : way < 3) (hx : x < 100000000) {c : Nat} (hc : 32 ≤ c ∧ c ≤ 126) (hq : ques (txt (z292 x way (l ++ [c] ++ [48 + x / 12 % 10]))) (z292 x way (l ++ [c] ++ [48 + x / 12 % 10])).length = some cq) (hab : a ≤ b) (hb : b ≤ yh (vy w)) (hZ : ct s + 2 ≤ Z) : RB (f_L_value_b264 F Z s (io x) (io way) (io a) (io b) (io c)) (valQ (wev w a b) cq) s (ct s + 2) (wtl w (z292 x way (l ++ [c] ++ [48 + x / 12 % 10]))) A := by
  have n1 : ¬ (1 : Int32) = 0 := by decide
  have e1 : (48 : Int32) + ((io x / 12) - (io x / 12) / 10 * 10) = io (48 + x / 12 % 10) := by
    have h1 : io x / 12 = io (x / 12) := io_div (by omega) (b := 12) (by omega)
    have h2 : io (x / 12) - io (x / 12) / 10 * 10 = io (x / 12 % 10) := md9 10 (by omega) (by omega)
    rw [h1, h2]; exact io_add 48 _
  have hm : x / 12 % 10 < 10 := Nat.mod_lt _ (by decide)
  rw [f_L_value_b264, e1]
  refine RB.cal (T_says (F := F) (Z := Z) H hc (by omega) (by omega)) (by omega) (fun s1 c1 d1 d2 => ?_)
  dsimp only
  rw [if_neg n1]
  refine RB.cal (T_says (F := F) (Z := Z) c1 (c := 48 + x / 12 % 10) (by omega) (by rw [List.length_append]; show l.length + 1 < 40; omega) (by omega)) (by omega) (fun s2 c2 d3 d4 => ?_)
  dsimp only
  rw [if_neg n1]
  exact (V292 hF c2 (by simp only [List.length_append]; show l.length + 1 + 1 < 28; omega) hw hx hq hab hb (by omega)).le (by omega)
theorem V228 (hF : 5000 ≤ F) (H : CL s (wtl w l) A) (hl : l.length < 18) (hw : way < 3) (hx : x < 100000000) {c : Nat} (hc : 32 ≤ c ∧ c ≤ 126) (hq : ques (txt (z264 x way (l ++ [c]))) (z264 x way (l ++ [c])).length = some cq) (hab : a ≤ b) (hb : b ≤ yh (vy w)) (hZ : ct s + 2 ≤ Z) : RB (f_L_value_b228 F Z s (io x) (io way) (io a) (io b) (io c)) (valQ (wev w a b) cq) s (ct s + 2) (wtl w (z264 x way (l ++ [c]))) A := by
  have n1 : ¬ (1 : Int32) = 0 := by decide
  have e1 : (io x / 4) - (io x / 4) / 3 * 3 = io (x / 4 % 3) := by
    have h1 : io x / 4 = io (x / 4) := io_div (by omega) (b := 4) (by omega)
    rw [h1]; exact md9 3 (by omega) (by omega)
  have e2 : (io (x / 4 % 3) = 0) = (x / 4 % 3 = 0) := io_eq (a := (x / 4 % 3)) (b := 0) (by omega) (by decide)
  have e3 : (io (x / 4 % 3) = 1) = (x / 4 % 3 = 1) := io_eq (a := (x / 4 % 3)) (b := 1) (by omega) (by decide)
  have hl1 : (l ++ [c]).length < 20 := by rw [List.length_append]; show l.length + 1 < 20; omega
  rw [f_L_value_b228, e1]
  simp only [e2, e3]
  refine RB.cal (T_says (F := F) (Z := Z) H hc (by omega) (by omega)) (by omega) (fun s1 c1 d1 d2 => ?_)
  dsimp only
  rw [if_neg n1]
  unfold z264 sch at hq ⊢
  by_cases h : x / 4 % 3 = 0
  · simp only [h, if_true] at hq ⊢
    exact (V264 hF c1 hl1 hw hx (c := 60) (by decide) hq hab hb (by omega)).le (by omega)
  · by_cases h1 : x / 4 % 3 = 1
    · simp only [h1, if_true, if_false, Nat.one_ne_zero] at hq ⊢
      exact (V264 hF c1 hl1 hw hx (c := 62) (by decide) hq hab hb (by omega)).le (by omega)
    · simp only [h, h1, if_false] at hq ⊢
      exact (V264 hF c1 hl1 hw hx (c := 61) (by decide) hq hab hb (by omega)).le (by omega)
theorem V183 (hF : 5000 ≤ F) (H : CL s (wtl w l) A) (hl : l.length < 17) (hw : way < 3) (hx : x < 100000000) (hq : ques (txt (z183 x way l)) (z183 x way l).length = some cq) (hab : a ≤ b) (hb : b ≤ yh (vy w)) (hZ : ct s + 2 ≤ Z) : RB (f_L_value_b183 F Z s (io x) (io way) (io a) (io b) 1) (valQ (wev w a b) cq) s (ct s + 2) (wtl w (z183 x way l)) A := by
  have n1 : ¬ (1 : Int32) = 0 := by decide
  have e1 : io x - io x / 4 * 4 = io (x % 4) := md9 4 (by omega) (by omega)
  have e2 : (io (x % 4) = 0) = (x % 4 = 0) := io_eq (a := (x % 4)) (b := 0) (by omega) (by decide)
  have e3 : (io (x % 4) = 1) = (x % 4 = 1) := io_eq (a := (x % 4)) (b := 1) (by omega) (by decide)
  have e4 : (io (x % 4) = 2) = (x % 4 = 2) := io_eq (a := (x % 4)) (b := 2) (by omega) (by decide)
  rw [f_L_value_b183, if_neg n1, e1]
  simp only [e2, e3, e4]
  unfold z183 fch at hq ⊢
  by_cases h : x % 4 = 0
  · rw [if_pos h] at hq ⊢
    rw [if_pos h]
    exact V228 hF H (by omega) hw hx (c := 112) (by decide) hq hab hb hZ
  · rw [if_neg h] at hq ⊢
    rw [if_neg h]
    by_cases h1 : x % 4 = 1
    · rw [if_pos h1] at hq ⊢
      rw [if_pos h1]
      exact V228 hF H (by omega) hw hx (c := 108) (by decide) hq hab hb hZ
    · rw [if_neg h1] at hq ⊢
      rw [if_neg h1]
      by_cases h2 : x % 4 = 2
      · rw [if_pos h2] at hq ⊢
        rw [if_pos h2]
        exact V228 hF H (by omega) hw hx (c := 118) (by decide) hq hab hb hZ
      · rw [if_neg h2] at hq ⊢
        rw [if_neg h2]
        exact V228 hF H (by omega) hw hx (c := 104) (by decide) hq hab hb hZ
theorem V133 (hF : 5000 ≤ F) (H : CL s (wtl w l) A) (hl : l.length < 10) (hw : way < 3) (hx : x < 100000000) (hq : ques (txt (z133 x way l)) (z133 x way l).length = some cq) (hab : a ≤ b) (hb : b ≤ yh (vy w)) (hZ : ct s + 2 ≤ Z) : RB (f_L_value_b133 F Z s (io x) (io way) (io a) (io b) 1) (valQ (wev w a b) cq) s (ct s + 2) (wtl w (z133 x way l)) A := by
  have n1 : ¬ (1 : Int32) = 0 := by decide
  have e1 : (io way ≤ (0 : Int32)) = (way ≤ 0) := io_le (a := way) (b := 0) (by omega) (by decide)
  have e2 : (io way < (2 : Int32)) = (way < 2) := io_lt (a := way) (b := 2) (by omega) (by decide)
  rw [f_L_value_b133, if_neg n1]
  simp only [e1, e2]
  unfold z133 at hq ⊢
  by_cases h : way = 0
  · rw [if_pos h] at hq ⊢
    rw [if_pos (by omega)]
    exact V417 hF H (by omega) hq hab hb hZ
  · rw [if_neg h] at hq ⊢
    rw [if_neg (by omega)]
    refine RB.cal (T_says (F := F) (Z := Z) H (c := 58) (by decide) (by omega) (by omega)) (by omega) (fun s1 c1 d1 d2 => ?_)
    dsimp only
    rw [if_neg n1]
    by_cases h2 : way < 2
    · rw [if_pos h2] at hq ⊢
      rw [if_pos h2]
      exact (V183 hF c1 (by rw [List.length_append]; show l.length + 1 < 17; omega) hw hx hq hab hb (by omega)).le (by omega)
    · rw [if_neg h2] at hq ⊢
      rw [if_neg h2]
      refine RB.cal (T_says (F := F) (Z := Z) c1 (c := 33) (by decide) (by rw [List.length_append]; show l.length + 1 < 40; omega) (by omega)) (by omega) (fun s2 c2 d3 d4 => ?_)
      dsimp only
      rw [if_neg n1]
      refine RB.cal (T_says (F := F) (Z := Z) c2 (c := 40) (by decide) (by simp only [List.length_append]; show l.length + 1 + 1 < 40; omega) (by omega)) (by omega) (fun s3 c3 d5 d6 => ?_)
      dsimp only
      rw [if_neg n1]
      exact (V183 hF c3 (by simp only [List.length_append]; show l.length + 1 + 1 + 1 < 17; omega) hw hx hq hab hb (by omega)).le (by omega)
theorem V79 (hF : 5000 ≤ F) (H : CL s (wtl w l) A) (hl : l.length < 9) (hw : way < 3) (hx : x < 100000000) {kind field : Nat} (hk : kind < 6) (hf : field < 4) (hq : ques (txt (z79 kind field x way l)) (z79 kind field x way l).length = some cq) (hab : a ≤ b) (hb : b ≤ yh (vy w)) (hZ : ct s + 2 ≤ Z) : RB (f_L_value_b79 F Z s (io kind) (io field) (io x) (io way) (io a) (io b) 1) (valQ (wev w a b) cq) s (ct s + 2) (wtl w (z79 kind field x way l)) A := by
  have n1 : ¬ (1 : Int32) = 0 := by decide
  have e0 : (io kind = 0) = (kind = 0) := io_eq (a := kind) (b := 0) (by omega) (by decide)
  have e1 : (io field = 0) = (field = 0) := io_eq (a := field) (b := 0) (by omega) (by decide)
  have e2 : (io field = 1) = (field = 1) := io_eq (a := field) (b := 1) (by omega) (by decide)
  have e3 : (io field = 2) = (field = 2) := io_eq (a := field) (b := 2) (by omega) (by decide)
  rw [f_L_value_b79, if_neg n1]
  simp only [e0, e1, e2, e3]
  unfold z79 at hq ⊢
  by_cases h : kind = 0
  · rw [if_pos h] at hq ⊢
    rw [if_pos h]
    exact V133 hF H (by omega) hw hx hq hab hb hZ
  · rw [if_neg h] at hq ⊢
    rw [if_neg h]
    unfold fch at hq ⊢
    have go : ∀ c : Nat, (32 ≤ c ∧ c ≤ 126) → ques (txt (z133 x way (l ++ [c]))) (z133 x way (l ++ [c])).length = some cq → RB ((f_L_says F Z s (io c)).bind fun x18 => (if ct s ≤ ct x18.2 ∧ ct x18.2 ≤ Z then (if x18.1 = 0 then (f_L_value_b133 F Z x18.2 (io x) (io way) (io a) (io b) 0) else (f_L_value_b133 F Z x18.2 (io x) (io way) (io a) (io b) 1)) else none)) (valQ (wev w a b) cq) s (ct s + 2) (wtl w (z133 x way (l ++ [c]))) A := fun c hc hq' => by
      refine RB.cal (T_says (F := F) (Z := Z) H hc (by omega) (by omega)) (by omega) (fun s1 c1 d1 d2 => ?_)
      dsimp only
      rw [if_neg n1]
      exact (V133 hF c1 (by rw [List.length_append]; show l.length + 1 < 10; omega) hw hx hq' hab hb (by omega)).le (by omega)
    by_cases h0 : field = 0
    · rw [if_pos h0] at hq ⊢
      rw [if_pos h0]
      exact go 112 (by decide) hq
    · rw [if_neg h0] at hq ⊢
      rw [if_neg h0]
      by_cases h1 : field = 1
      · rw [if_pos h1] at hq ⊢
        rw [if_pos h1]
        exact go 108 (by decide) hq
      · rw [if_neg h1] at hq ⊢
        rw [if_neg h1]
        by_cases h2 : field = 2
        · rw [if_pos h2] at hq ⊢
          rw [if_pos h2]
          exact go 118 (by decide) hq
        · rw [if_neg h2] at hq ⊢
          rw [if_neg h2]
          exact go 104 (by decide) hq
theorem V_value (hF : 5000 ≤ F) (H : CL s w A) (hw : way < 3) (hx : x < 100000000) {kind field : Nat} (hk : kind < 6) (hf : field < 4) (hab : a ≤ b) (hb : b ≤ yh (vy w)) (hZ : ct s + 2 ≤ Z) : RB (f_L_value F Z s (io kind) (io field) (io x) (io way) (io a) (io b)) (aggv (wev w a b) (kch kind) (if kind = 0 then 0 else fch field) (chx x way)) s (ct s + 2) (wtl w (vtx kind field x way)) A := by
  have n1 : ¬ (1 : Int32) = 0 := by decide
  have hk9 := H.1.2.2.2.1.1
  obtain ⟨s1, e1, c1⟩ := T_clear (F := F) H
  have f0 : (io kind = 0) = (kind = 0) := io_eq (a := kind) (b := 0) (by omega) (by decide)
  have f1 : (io kind = 1) = (kind = 1) := io_eq (a := kind) (b := 1) (by omega) (by decide)
  have f2 : (io kind = 2) = (kind = 2) := io_eq (a := kind) (b := 2) (by omega) (by decide)
  have f3 : (io kind = 3) = (kind = 3) := io_eq (a := kind) (b := 3) (by omega) (by decide)
  have f4 : (io kind = 4) = (kind = 4) := io_eq (a := kind) (b := 4) (by omega) (by decide)
  have hq := vtx_q kind field x way
  rw [← valQ_one]
  rw [f_L_value]
  simp only [f0, f1, f2, f3, f4]
  refine RB.pl e1 c1 (fun s2 c2 d2 => ?_)
  dsimp only
  rw [if_neg (nn0 (a := vk w) (by omega))]
  unfold vtx at hq ⊢
  have go : ∀ c : Nat, (32 ≤ c ∧ c ≤ 126) → ques (txt (z79 kind field x way ([] ++ [c] ++ [40]))) (z79 kind field x way ([] ++ [c] ++ [40])).length = some [vqx kind field x way] → RB ((f_L_says F Z s2 (io c)).bind fun x22 => (if ct s2 ≤ ct x22.2 ∧ ct x22.2 ≤ Z then (if x22.1 = 0 then
        (f_L_value_b79 F Z x22.2 (io kind) (io field) (io x) (io way) (io a) (io b) 0)
      else
        ((f_L_says F Z x22.2 40).bind fun x23 => (if ct x22.2 ≤ ct x23.2 ∧ ct x23.2 ≤ Z then (if x23.1 = 0 then
          (f_L_value_b79 F Z x23.2 (io kind) (io field) (io x) (io way) (io a) (io b) 0)
        else
          (f_L_value_b79 F Z x23.2 (io kind) (io field) (io x) (io way) (io a) (io b) 1)) else none))) else none)) (valQ (wev w a b) [vqx kind field x way]) s2 (ct s + 2) (wtl w (z79 kind field x way ([] ++ [c] ++ [40]))) A := fun c hc hq' => by
    refine RB.cal (T_says (F := F) (Z := Z) c2 hc (by decide) (by omega)) (by omega) (fun s3 c3 d3 d4 => ?_)
    dsimp only
    rw [if_neg n1]
    refine RB.cal (T_says (F := F) (Z := Z) c3 (c := 40) (by decide) (show 1 < 40 by decide) (by omega)) (by omega) (fun s4 c4 d5 d6 => ?_)
    dsimp only
    rw [if_neg n1]
    exact (V79 hF c4 (show 2 < 9 by decide) hw hx hk hf hq' hab hb (by omega)).le (by omega)
  unfold kch at hq ⊢
  by_cases h0 : kind = 0
  · rw [if_pos h0] at hq ⊢
    rw [if_pos h0]
    exact go 110 (by decide) hq
  · rw [if_neg h0] at hq ⊢
    rw [if_neg h0]
    by_cases h1 : kind = 1
    · rw [if_pos h1] at hq ⊢
      rw [if_pos h1]
      exact go 115 (by decide) hq
    · rw [if_neg h1] at hq ⊢
      rw [if_neg h1]
      by_cases h2 : kind = 2
      · rw [if_pos h2] at hq ⊢
        rw [if_pos h2]
        exact go 109 (by decide) hq
      · rw [if_neg h2] at hq ⊢
        rw [if_neg h2]
        by_cases h3 : kind = 3
        · rw [if_pos h3] at hq ⊢
          rw [if_pos h3]
          exact go 120 (by decide) hq
        · rw [if_neg h3] at hq ⊢
          rw [if_neg h3]
          by_cases h4 : kind = 4
          · rw [if_pos h4] at hq ⊢
            rw [if_pos h4]
            exact go 100 (by decide) hq
          · rw [if_neg h4] at hq ⊢
            rw [if_neg h4]
            exact go 116 (by decide) hq
end VA
