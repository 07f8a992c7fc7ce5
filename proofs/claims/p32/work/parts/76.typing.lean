/-! typing: the law's texts -/
theorem nn0 {a : Nat} (ha : a < 2147483648) : ¬ io a < 0 := by
  show ¬ io a < io 0
  rw [io_lt ha (by decide)]; omega
def upA (A : LA) (k : Nat) (f : Nat → Int32) : LA := fun i => if i = k then f else A i
theorem CL.wA {s : St} {w : WD} {A : LA} (H : CL s w A) {k : Nat} (hk : 39 ≤ k) (j : Nat) (x : Int32) : CL (sA s k j x) w (upA A k (ups (A k) j x)) := by
  have f : FX [] [k] s (sA s k j x) := Fr.fx (Fr.rf.A (by simp))
  obtain ⟨v1, t1⟩ := H.1.1.2.2.2.2.2.2.2
  obtain ⟨v2, t2⟩ := H.1.2.2.2.2.2.2
  have e1 : ∀ i, i < 39 → gA (sA s k j x) i = gA s i := fun i hi => f.2.1 i (by simp; omega)
  refine ⟨H.1.fx f ⟨v1, t1.1, t1.2.1, fun i hi => by rw [e1 32 (by decide)]; exact t1.2.2.1 i hi, t1.2.2.2.1, fun i hi => by rw [e1 33 (by decide)]; exact t1.2.2.2.2 i hi⟩ ⟨v2, t2.1, t2.2.1, fun i hi => by rw [e1 36 (by decide)]; exact t2.2.2.1 i hi, t2.2.2.2.1, fun i hi => by rw [e1 37 (by decide)]; exact t2.2.2.2.2 i hi⟩ (by simp) (fun i hi => by
    have : i < 39 := by revert i; decide
    simp; omega), fun i hi => ?_⟩
  funext y
  rw [gA_sA]
  unfold upA ups
  by_cases e : i = k
  · rw [if_pos e, if_pos e, ← H.2 k hk]
  · rw [if_neg e, if_neg e, H.2 i hi]
theorem upA_self (A : LA) (k : Nat) (f : Nat → Int32) : upA A k f k = f := if_pos rfl
theorem upA_ne {A : LA} {k i : Nat} (f : Nat → Int32) (h : i ≠ k) : upA A k f i = A i := if_neg h
def wtl (w : WD) (l : List Nat) : WD := wtx w (txt l) l.length
theorem wtl_wtl (w : WD) (l l' : List Nat) : wtl (wtl w l) l' = wtl w l' := rfl
section TY
variable {F Z : Nat} {s : St} {w : WD} {A : LA}
theorem T_clear (H : CL s w A) : ∃ s1, f_P_clearText F s = some (io (vk w), s1) ∧ CL s1 (wtl w []) A := by
  obtain ⟨a, b, c, -⟩ := W_clearText (F := F) H.1
  exact ⟨_, a, H.of b c⟩
theorem T_type {l : List Nat} (H : CL s (wtl w l) A) {c : Nat} (h1 : 32 ≤ c) (h2 : c ≤ 126) (hk : l.length < 40) : RB (f_L_act F Z s 0 (io c) 0 0 0) (io (l.length + 1)) s (ct s) (wtl w (l ++ [c])) A := by
  have h := A_type (F := F) (Z := Z) H h1 h2 hk
  have e : wtx (wtl w l) (ups (vt (wtl w l)) (vk (wtl w l)) c) (vk (wtl w l) + 1) = wtl w (l ++ [c]) := by
    show wtx w (ups (txt l) l.length c) (l.length + 1) = wtx w (txt (l ++ [c])) (l ++ [c]).length
    rw [txt_ups, List.length_append]; rfl
  rw [e] at h
  exact h
theorem T_err (hF : 5000 ≤ F) {l : List Nat} (H : CL s (wtl w l) A) (hc : ct s < Z) : RB (qd Z s (fun z => f_P_errorAt F z s)) (.inl (errL l)) s (ct s + 1) (wtl w l) A := by
  obtain ⟨s', a, b, c, -⟩ := W_errorAt (F := F) (Z := sz s + 64) hF H.1 (by omega)
  exact RB.dd H hc ⟨s', a, b, c⟩
/-- the first m signs of t once more -/
theorem T_typed_loop (hF : 5000 ≤ F) {l : List Nat} (hl : l.length ≤ 40) (ho : ∀ c ∈ l, 32 ≤ c ∧ c ≤ 126) (hA : ∀ i (h : i < l.length), A 43 i = io l[i]) : ∀ (j n k : Nat) (s : St), k + j = l.length → j < n → ct s < Z → CL s (wtl w (l.take k)) A → RB (f_L_typed_b16 F Z n s (io l.length) 1 (io k)) (errL l) s (ct s + 1) (wtl w l) A := by
  intro j
  induction j with
  | zero =>
    intro n k s hk hn hc H
    obtain ⟨n, rfl⟩ : ∃ n', n = n' + 1 := ⟨n - 1, by omega⟩
    have hk' : k = l.length := by omega
    subst hk'
    rw [List.take_length] at H
    rw [f_L_typed_b16, if_pos (Int32.le_refl _), if_neg (show ¬ (1 : Int32) = 0 by decide)]
    exact RB.tk (T_err hF H hc) (fun s1 c1 d1 d2 => RB.ret c1 d2)
  | succ j ih =>
    intro n k s hk hn hc H
    obtain ⟨n, rfl⟩ : ∃ n', n = n' + 1 := ⟨n - 1, by omega⟩
    have hkl : k < l.length := by omega
    have hlt : (l.take k).length = k := by rw [List.length_take]; omega
    have h1 : ¬ io l.length ≤ io k := by rw [io_le (by omega) (by omega)]; omega
    have hg : gA s 43 k = io l[k] := by rw [H.2 43 (by decide)]; exact hA k hkl
    obtain ⟨o1, o2⟩ := ho l[k] (List.getElem_mem _)
    have ht := T_type (F := F) (Z := Z) (l := l.take k) (c := l[k]) H o1 o2 (by omega)
    rw [hlt, List.take_append_getElem hkl] at ht
    rw [f_L_typed_b16, if_neg h1, if_neg (show ¬ (1 : Int32) = 0 by decide), ix_io (by omega) (by decide), Option.bind_some, hg]
    refine RB.cal ht (by omega) (fun s1 c1 d1 d2 => ?_)
    dsimp only
    show RB (if io (k + 1) = io k + 1 then _ else _) _ _ _ _ _
    have e1 : io k + 1 = io (k + 1) := io_add _ _
    rw [e1, if_pos rfl]
    exact (ih n (k + 1) s1 (by omega) (by omega) (by omega) c1).le (by omega)
theorem T_typed (hF : 5000 ≤ F) {l : List Nat} (hl : l.length ≤ 40) (ho : ∀ c ∈ l, 32 ≤ c ∧ c ≤ 126) (hA : ∀ i (h : i < l.length), A 43 i = io l[i]) (H : CL s w A) (hk : vk w < 1000) (hc : ct s < Z) : RB (f_L_typed F Z s (io l.length)) (errL l) s (ct s + 1) (wtl w l) A := by
  obtain ⟨s1, e1, c1⟩ := T_clear (F := F) H
  rw [f_L_typed]
  refine RB.pl e1 c1 (fun s2 c2 d2 => ?_)
  dsimp only
  show RB (if io (vk w) < 0 then _ else _) _ _ _ _ _
  rw [if_neg (nn0 (a := vk w) (by omega))]
  have h := T_typed_loop (F := F) (Z := Z) (w := w) hF hl ho hA l.length F 0 s2 (by omega) (by omega) (by omega) (by rw [List.take_zero]; exact c2)
  rw [d2] at h
  obtain ⟨s', a, b, c, d⟩ := h
  exact ⟨s', a, b, by omega, d⟩
theorem T_dice {L : Nat} {xs : Nat → Int32} (hL : L ≤ 260) {p : Nat} (hp : 260 ≤ p) (hp2 : p < 100000) (H : CL s w A) : RB (f_L_dice L xs F Z s (io p)) (dicC (io p)) s (ct s) w A := by
  rw [f_L_dice, if_pos (show Int32.ofNat L ≤ io p from by
    show io L ≤ io p
    rw [io_le (by omega) (by omega)]; omega)]
  exact RB.ret H (Nat.le_refl _)
/-- one text of the law: the signs from k on -/
def TPx (w : WD) (A : LA) : WD → LA → Prop := fun w' A' => (∃ l, w' = wtl w l) ∧ ∀ i, i ≠ 43 → A' i = A i
theorem T_steps {L : Nat} {xs : Nat → Int32} (hL : L ≤ 260) (hF : 5000 ≤ F) {at9 : Nat} (h3 : 300 ≤ at9) (h4 : at9 < 2000) {C : Nat}
    (fin : ∀ (l : List Nat) (b : Int32) (A' : LA) (s' : St), l.length ≤ 26 → b = errL l → (∀ i, i ≠ 43 → A' i = A i) → ct s' ≤ C + 52 → CL s' (wtl w l) A' → RPx (f_L_isText_b226 L xs F Z s' b 1) 1 s' (C + 54) (TPx w A)) (hZ : C + 54 ≤ Z) :
    ∀ (j n k : Nat) (s' : St) (l : List Nat) (b : Int32) (A' : LA), k + j = 26 → j < n → l.length ≤ k → (0 < k → b = errL l) → (∀ c ∈ l, 32 ≤ c ∧ c ≤ 126) → (∀ i (h : i < l.length), A' 43 i = io l[i]) → (∀ i, i ≠ 43 → A' i = A i) → ct s' ≤ C + 2 * k → smt at9 j k l b = true → CL s' (wtl w l) A' →
      RPx (f_L_isText_b23 L xs F Z n s' (io at9) (io l.length) b 1 (io k)) 1 s' (C + 54) (TPx w A) := by
  intro j
  induction j with
  | zero =>
    intro n k s' l b A' hk hn hl hb ho hA hA2 hc hsm H
    obtain ⟨n, rfl⟩ : ∃ n', n = n' + 1 := ⟨n - 1, by omega⟩
    rw [f_L_isText_b23, if_pos (show (26 : Int32) ≤ io k from by
      show io 26 ≤ io k
      rw [io_le (by omega) (by omega)]; omega)]
    exact fin l b A' s' (by omega) (hb (by omega)) hA2 (by omega) H
  | succ j ih =>
    intro n k s' l b A' hk hn hl hb ho hA hA2 hc hsm H
    obtain ⟨n, rfl⟩ : ∃ n', n = n' + 1 := ⟨n - 1, by omega⟩
    have n1 : ¬ (26 : Int32) ≤ io k := by
      show ¬ io 26 ≤ io k
      rw [io_le (by omega) (by omega)]; omega
    have n2 : ¬ (1 : Int32) = 0 := by decide
    have e1 : io at9 + io k = io (at9 + k) := io_add _ _
    have ek : io k + 1 = io (k + 1) := io_add _ _
    have el : io l.length + 1 = io (l.length + 1) := io_add _ _
    have el1 : io (l.length + 1) - 1 = io l.length := by
      have : io (l.length + 1) - io 1 = io (l.length + 1 - 1) := io_sub (by omega)
      exact this
    have el2 : io (l.length + 1) + (-1) = io l.length := by
      have h9 : io (l.length + 1) + (-1) = io (l.length + 1) - 1 := by rw [Int32.sub_eq_add_neg]
      rw [h9]; exact el1
    rw [smt] at hsm
    obtain ⟨x, hx⟩ : ∃ x, x = dicC (io (at9 + k)) := ⟨_, rfl⟩
    cases hst : stp at9 k l b with
    | none => rw [hst] at hsm; cases hsm
    | some y =>
      rw [hst] at hsm
      have hsm' : smt at9 j (k + 1) y.1 y.2 = true := hsm
      unfold stp at hst
      rw [← hx] at hst
      obtain ⟨c, hcc⟩ : ∃ c, c = cl (codI x) := ⟨_, rfl⟩
      rw [← hcc] at hst
      obtain ⟨e, he⟩ : ∃ e, e = errL (l ++ [c]) := ⟨_, rfl⟩
      rw [← he] at hst
      by_cases hcond : codI x = io c ∧ 32 ≤ c ∧ c ≤ 126 ∧ ¬ (e < -io 1) ∧ ¬ (io (l.length + 1) < e) ∧ (b < io 0 ∨ b = io l.length ∨ e = b) ∧ (e < io 0 ∨ io l.length ≤ e ∨ e = b)
      · rw [if_pos hcond] at hst
        obtain ⟨q1, q2, q3, q4, q5, q6, q7⟩ := hcond
        have hlen : (l ++ [c]).length = l.length + 1 := by rw [List.length_append]; rfl
        have ho1 : ∀ z ∈ l ++ [c], 32 ≤ z ∧ z ≤ 126 := fun z hz => by
          rcases List.mem_append.mp hz with h | h
          · exact ho z h
          · rw [List.mem_singleton.mp h]; exact ⟨q2, q3⟩
        -- what comes behind the error
        have eb : ∀ (s3 : St) (A3 : LA), ct s3 ≤ C + 2 * k + 1 → CL s3 (wtl w (l ++ [c])) A3 → (∀ i (h : i < (l ++ [c]).length), A3 43 i = io (l ++ [c])[i]) → (∀ i, i ≠ 43 → A3 i = A i) → RPx (f_L_isText_b150 L xs F Z (f_L_isText_b23 L xs F Z n) s3 (io at9) (io (l.length + 1)) (io k) e 1) 1 s3 (C + 54) (TPx w A) := by
          intro s3 A3 f1 f2 f3 f4
          have go1 : y = (l ++ [c], e) → ∀ s4, ct s4 ≤ C + 2 * k + 1 → CL s4 (wtl w (l ++ [c])) A3 → RPx (f_L_isText_b23 L xs F Z n s4 (io at9) (io (l.length + 1)) e 1 (io (k + 1))) 1 s4 (C + 54) (TPx w A) := fun hy s4 d4 c4 => by
            rw [hy] at hsm'
            have := ih n (k + 1) s4 (l ++ [c]) e A3 (by omega) (by omega) (by omega) (fun _ => he) ho1 f3 f4 (by omega) hsm' c4
            rwa [hlen] at this
          rw [f_L_isText_b150, if_neg n2, el1, ek, e1, el2]
          by_cases g1 : e = io l.length
          · rw [if_pos g1]
            rw [if_pos g1] at hst
            have hd := T_dice (F := F) (Z := Z) (xs := xs) hL (show 260 ≤ at9 + k by omega) (by omega) f2
            rw [← hx] at hd
            refine RPx.cal hd (by omega) (fun s4 c4 d4 d5 => ?_)
            dsimp only
            show RPx (if x / io 900 - x / io 900 / io 9 * io 9 ≤ io 0 then _ else _) _ _ _ _
            by_cases g2 : x / io 900 - x / io 900 / io 9 * io 9 ≤ io 0
            · rw [if_pos g2] at hst ⊢
              exact go1 (Option.some.inj hst).symm s4 (by omega) c4
            · rw [if_neg g2] at hst ⊢
              by_cases g3 : errL l = -io 1 ∨ errL l = io l.length
              · rw [if_pos g3] at hst
                have hy := (Option.some.inj hst).symm
                have hA3 : ∀ i (h : i < l.length), A3 43 i = io l[i] := fun i h => by
                  have := f3 i (by omega)
                  rwa [List.getElem_append_left h] at this
                have ht := T_typed (F := F) (Z := Z) hF (show l.length ≤ 40 by omega) ho hA3 c4 (by show (l ++ [c]).length < 1000; omega) (by omega)
                rw [wtl_wtl] at ht
                refine RPx.cal ht (by omega) (fun s5 c5 d6 d7 => ?_)
                dsimp only
                rw [hy] at hsm'
                have hn5 := ih n (k + 1) s5 l (errL l) A3 (by omega) (by omega) (by omega) (fun _ => rfl) ho hA3 f4 (by omega) hsm' c5
                show RPx (if errL l = -1 then _ else (if errL l = io l.length then _ else _)) _ _ _ _
                by_cases g4 : errL l = -1
                · rw [if_pos g4]; exact hn5
                · rw [if_neg g4, if_pos (g3.resolve_left g4)]; exact hn5
              · rw [if_neg g3] at hst; cases hst
          · rw [if_neg g1]
            rw [if_neg g1] at hst
            exact go1 (Option.some.inj hst).symm s3 f1 f2
        rw [f_L_isText_b23, if_neg n1, if_neg n2, e1]
        have hd := T_dice (F := F) (Z := Z) (xs := xs) hL (show 260 ≤ at9 + k by omega) (by omega) H
        rw [← hx] at hd
        refine RPx.cal hd (by omega) (fun s1 c1 d1 d2 => ?_)
        dsimp only
        show RPx ((f_L_code F s1 x).bind fun x12 => _) _ _ _ _
        rw [code_eq, q1]
        refine RPx.pl (s1 := s1) rfl c1 (fun s2 c2 d3 => ?_)
        dsimp only
        show RPx ((ix 40 (io l.length)).bind fun j14 => lt (sA s2 43 j14 (io c)) fun s15 => _) _ _ _ _
        rw [ix_io (show l.length < 40 by omega) (by decide), Option.bind_some, lt_def]
        have c3 := c2.wA (k := 43) (by decide) l.length (io c)
        have eg : gA (sA s2 43 l.length (io c)) 43 l.length = io c := by rw [gA_sA, if_pos rfl, if_pos rfl]
        have ec : ct (sA s2 43 l.length (io c)) = ct s2 := rfl
        rw [Option.bind_some, eg]
        have ht := T_type (F := F) (Z := Z) (c := c) c3 q2 q3 (show l.length < 40 by omega)
        refine RPx.mv (s := sA s2 43 l.length (io c)) (RPx.cal ht (by omega) (fun s4 c4 d4 d5 => ?_)) rfl
        dsimp only
        show RPx (if io (l.length + 1) = io l.length + 1 then _ else _) _ _ _ _
        rw [el, if_pos rfl, f_L_isText_b74]
        refine RPx.tk (T_err hF c4 (by omega)) (fun s5 c5 d6 d7 => ?_)
        dsimp only
        rw [← he]
        have hA5 : ∀ i (h : i < (l ++ [c]).length), upA A' 43 (ups (A' 43) l.length (io c)) 43 i = io (l ++ [c])[i] := fun i h => by
          rw [upA_self]
          unfold ups
          by_cases g : i = l.length
          · subst g
            rw [if_pos rfl, List.getElem_append_right (Nat.le_refl _)]; simp
          · rw [if_neg g, List.getElem_append_left (by omega)]
            exact hA i (by omega)
        have hR := eb s5 _ (by omega) c5 hA5 (fun i hi => by rw [upA_ne _ hi]; exact hA2 i hi)
        have h124 : RPx (f_L_isText_b124 L xs F Z (f_L_isText_b23 L xs F Z n) s5 (io at9) (io (l.length + 1)) b (io k) e) 1 s5 (C + 54) (TPx w A) := by
          rw [f_L_isText_b124, el1]
          by_cases g1 : e < 0
          · rw [if_pos g1]; exact hR
          · rw [if_neg g1]
            by_cases g2 : io l.length ≤ e
            · rw [if_pos g2]; exact hR
            · rw [if_neg g2, if_pos ((q7.resolve_left g1).resolve_left g2)]; exact hR
        show RPx (if (1 : Int32) = 0 then _ else (if e < -1 then _ else (if io l.length + 1 < e then _ else (if b < 0 then _ else (if b = (io l.length + 1) - 1 then _ else (if e = b then _ else _)))))) _ _ _ _
        rw [el, el1, if_neg n2, if_neg (show ¬ e < -1 from q4), if_neg q5]
        by_cases g1 : b < 0
        · rw [if_pos g1]; exact h124
        · rw [if_neg g1]
          by_cases g2 : b = io l.length
          · rw [if_pos g2]; exact h124
          · rw [if_neg g2, if_pos ((q6.resolve_left g1).resolve_left g2)]; exact h124
      · rw [if_neg hcond] at hst; cases hst
theorem T_isText {L : Nat} {xs : Nat → Int32} (hL : L ≤ 260) (hF : 5000 ≤ F) {at9 : Nat} (h3 : 300 ≤ at9) (h4 : at9 < 2000) (hsm : smt at9 26 0 [] 0 = true) (H : CL s w A) (hZ : ct s + 54 ≤ Z) : RPx (f_L_isText L xs F Z s (io at9)) 1 s (ct s + 54) (TPx w A) := by
  have hk := H.1.2.2.2.1.1
  obtain ⟨s1, e1, c1⟩ := T_clear (F := F) H
  rw [f_L_isText]
  refine RPx.pl e1 c1 (fun s2 c2 d2 => ?_)
  dsimp only
  show RPx (if io (vk w) < 0 then _ else _) _ _ _ _
  rw [if_neg (nn0 (a := vk w) (by omega))]
  refine T_steps (C := ct s) hL hF h3 h4 (fun l b A' s' hl hb hA' hc' c' => ?_) hZ 26 F 0 s2 [] 0 A (by omega) (by omega) (Nat.le_refl _) (fun h => absurd h (Nat.lt_irrefl _)) (fun c h => absurd h List.not_mem_nil) (fun i h => absurd h (Nat.not_lt_zero _)) (fun _ _ => rfl) (by omega) hsm c2
  have hh := c'.1.h
  have tp : TPx w A (wtl w l) A' := ⟨⟨l, rfl⟩, hA'⟩
  have hpl := perr_le (c'.1.2.2.2.1)
  have n2 : ¬ (1 : Int32) = 0 := by decide
  cases hq : ques (vt (wtl w l)) (vk (wtl w l)) with
  | none =>
    have eb : b = io (perr (txt l)) := by
      rw [hb]; unfold errL
      have hq' : ques (txt l) l.length = none := hq
      rw [hq']
    have hpl' : perr (txt l) ≤ l.length := hpl
    rw [f_L_isText_b226, if_neg n2, eb, if_neg (nn0 (a := perr (txt l)) (by omega)), f_L_isText_b236, if_neg n2]
    refine RPx.cal (A_told_n (F := F) (Z := Z) hF c' (by omega) (a := 0) (b := 0) (Nat.le_refl _) (Nat.zero_le _) hq 1) (by omega) (fun s3 c3 d3 d4 => ?_)
    dsimp only
    show RPx (if (-124300000000 : Int64) = -124300000000 then _ else _) _ _ _ _
    rw [if_pos rfl]
    refine RPx.cal (A_told_n (F := F) (Z := Z) hF c3 (by omega) (a := 0) (b := 0) (Nat.le_refl _) (Nat.zero_le _) hq 0) (by omega) (fun s4 c4 d5 d6 => ?_)
    dsimp only
    show RPx (if (-124300000000 : Int64) = -124300000000 then _ else _) _ _ _ _
    rw [if_pos rfl]
    exact RPx.ret c4 tp (by omega)
  | some cq =>
    have eb : b = -io 1 := by
      rw [hb]; unfold errL
      have hq' : ques (txt l) l.length = some cq := hq
      rw [hq']
    rw [f_L_isText_b226, if_neg n2, eb, if_pos (show (-io 1 : Int32) < 0 by decide)]
    refine RPx.pl (W_now (F := F) c'.1) c' (fun s3 c3 d3 => ?_)
    dsimp only
    refine RPx.cal (A_told (F := F) (Z := Z) hF c3 (by omega) (a := 0) (b := yh (vy w)) (Nat.zero_le _) (Nat.le_refl _) hq 1) (by omega) (fun s4 c4 d4 d5 => ?_)
    dsimp only
    refine RPx.pl (W_now (F := F) c4.1) c4 (fun s5 c5 d6 => ?_)
    dsimp only
    refine RPx.cal (A_told (F := F) (Z := Z) hF c5 (by omega) (a := 0) (b := yh (vy w)) (Nat.zero_le _) (Nat.le_refl _) hq 0) (by omega) (fun s6 c6 d7 d8 => ?_)
    dsimp only
    show RPx (if valQ (wev (wtl w l) 0 (yh (vy w))) cq = valQ (wev (wtl w l) 0 (yh (vy w))) cq then _ else _) _ _ _ _
    rw [if_pos rfl]
    exact RPx.ret c6 tp (by omega)
end TY
