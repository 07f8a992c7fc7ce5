/-! what else stays true of the ghost: nobody who is off holds, debts join two, alarms of a rule lie apart, whom they woke held -/
theorem ofb0 {g : RG} {p j : Nat} (h : ofb g p j = io 0) : (gof g j).testBit p = false := by
  unfold ofb at h
  by_cases hb : (gof g j).testBit p = true
  · rw [if_pos hb] at h; exact absurd h (by decide)
  · simpa using hb
theorem ofb1 {g : RG} {p j : Nat} (h : ofb g p j = io 1) : (gof g j).testBit p = true := by
  unfold ofb at h
  by_cases hb : (gof g j).testBit p = true
  · exact hb
  · rw [if_neg hb] at h; exact absurd h (by decide)
theorem fup_none {p : Nat → Bool} {v : Nat → Int32} : ∀ (m k : Nat), (∀ i, v i ≠ -io 1) → fup p v k m = -io 1 → ∀ i, k ≤ i → i < k + m → p i = false := by
  intro m
  induction m with
  | zero => intro k _ _ i h1 h2; omega
  | succ m ih =>
    intro k hv h i h1 h2
    unfold fup at h
    by_cases hk : p k = true
    · rw [if_pos hk] at h; exact absurd h (hv k)
    · rw [if_neg hk] at h
      by_cases e : i = k
      · subst e; simpa using hk
      · exact ih (k + 1) hv h i (by omega) (by omega)
theorem paid2_ok {g : RG} {n d j i : Nat} (hd : d ≤ 4000) (hi : i < d) (h : paid2 g n d j = io i) : n ≠ 0 ∧ j % 3 = 0 ∧ ofb g (cl (plan2 g n j)) j = io 0 ∧ gdb g i = cl (plan2 g n j) ∧ ofb g (gda g i) j = io 0 := by
  unfold paid2 at h
  by_cases h0 : n = 0
  · rw [if_pos h0, io_neg1' (by omega)] at h; exact h.elim
  · rw [if_neg h0] at h
    by_cases h1 : j % 3 = 0
    · rw [if_pos h1] at h
      by_cases h2 : ofb g (cl (plan2 g n j)) j = io 0
      · rw [if_pos h2] at h
        rcases fup_some (p := pd2 g j (cl (plan2 g n j))) (v := io) d 0 with h3 | ⟨k, h3, h4, h5, h6⟩
        · rw [h3, io_neg1' (by omega)] at h; exact h.elim
        · rw [h6] at h
          have hk := io_inj (by omega) (by omega) h
          subst hk
          have h7 : gdb g k = cl (plan2 g n j) ∧ ofb g (gda g k) j = io 0 := by simpa [pd2] using h5
          exact ⟨h0, h1, h2, h7.1, h7.2⟩
      · rw [if_neg h2, io_neg1' (by omega)] at h; exact h.elim
    · rw [if_neg h1, io_neg1' (by omega)] at h; exact h.elim
theorem hold2_off {g : RG} {h n d j q : Nat} (G : ROg g h n) (K : DBg g n d) (hj : j < 126) (hn : n ≤ 8) (hq : q < 8) (e : hold2 g n d j = io q) : (gof g j).testBit q = false := by
  have hd := K.1
  unfold hold2 at e
  by_cases h0 : n = 0
  · rw [if_pos h0, io_neg1' (by omega)] at e; exact e.elim
  · rw [if_neg h0] at e
    obtain ⟨p, hp, ep⟩ := plan2_some G hj h0
    by_cases h2 : ofb g (cl (plan2 g n j)) j = io 0
    · rw [if_pos h2] at e
      rcases paid2_or (g := g) (n := n) (d := d) (j := j) with e9 | ⟨i, hi, e9⟩
      · rw [if_pos e9, ep] at e
        have := io_inj (by omega) (by omega) e
        subst this
        rw [ep, cl_io (by omega)] at h2
        exact ofb0 h2
      · rw [e9, if_neg (by rw [io_neg1 (by omega)]; exact id), cl_io (by omega)] at e
        have := (K.2 i hi).1
        have := io_inj (by omega) (by omega) e
        subst this
        exact ofb0 (paid2_ok hd hi e9).2.2.2.2
    · rw [if_neg h2] at e
      rcases fup_some (p := hop2 g n j (cl (plan2 g n j))) (v := fun k => io ((cl (plan2 g n j) + k) % n)) (n - 1) 1 with h3 | ⟨i, h3, h4, h5, h6⟩
      · rw [h3, io_neg1' (by omega)] at e; exact e.elim
      · rw [h6] at e
        have hm := Nat.mod_lt (cl (plan2 g n j) + i) (show n > 0 by omega)
        have := io_inj (by omega) (by omega) e
        subst this
        have h7 : ofb g ((cl (plan2 g n j) + i) % n) j = io 0 := by simpa [hop2] using h5
        exact ofb0 h7
/-- nobody: all are off -/
theorem hold2_all {g : RG} {h n d j : Nat} (G : ROg g h n) (K : DBg g n d) (hj : j < 126) (hn : n ≤ 8) (e : hold2 g n d j = -io 1) : n = 0 ∨ ∀ q, q < n → (gof g j).testBit q = true := by
  have hd := K.1
  unfold hold2 at e
  by_cases h0 : n = 0
  · exact Or.inl h0
  · right
    rw [if_neg h0] at e
    obtain ⟨p, hp, ep⟩ := plan2_some G hj h0
    by_cases h2 : ofb g (cl (plan2 g n j)) j = io 0
    · rw [if_pos h2] at e
      rcases paid2_or (g := g) (n := n) (d := d) (j := j) with e9 | ⟨i, hi, e9⟩
      · rw [if_pos e9, ep, io_neg1 (by omega)] at e; exact e.elim
      · rw [e9, if_neg (by rw [io_neg1 (by omega)]; exact id), cl_io (by omega)] at e
        have := (K.2 i hi).1
        rw [io_neg1 (by omega)] at e; exact e.elim
    · rw [if_neg h2] at e
      have h1 := (ofb_or g (cl (plan2 g n j)) j).resolve_left h2
      rw [ep, cl_io (by omega)] at h1 e
      intro q hq
      by_cases hqp : q = p
      · subst hqp; exact ofb1 h1
      · have hN := fup_none (p := hop2 g n j p) (v := fun k => io ((p + k) % n)) (n - 1) 1 (fun i => by
          have := Nat.mod_lt (p + i) (show n > 0 by omega)
          show io ((p + i) % n) ≠ -io 1
          intro c
          rw [io_neg1 (by omega)] at c; exact c) e ((q + n - p) % n) (by
            rcases (by omega : p < q ∨ q < p) with c | c
            · rw [show q + n - p = (q - p) + n by omega, Nat.add_mod_right, Nat.mod_eq_of_lt (by omega)]; omega
            · rw [Nat.mod_eq_of_lt (by omega)]; omega) (by
            have := Nat.mod_lt (q + n - p) (show n > 0 by omega); omega)
        have hm : (p + (q + n - p) % n) % n = q := by
          rw [Nat.add_mod_mod, show p + (q + n - p) = q + n by omega, Nat.add_mod_right, Nat.mod_eq_of_lt hq]
        unfold hop2 at hN
        rw [hm] at hN
        have h9 : ¬ ofb g q j = io 0 := by simpa using hN
        exact ofb1 ((ofb_or g q j).resolve_left h9)
/-- who is planned and not off holds, or one who owes him -/
theorem hold2_first {g : RG} {h n d j q : Nat} (G : ROg g h n) (K : DBg g n d) (hj : j < 126) (hn : n ≤ 8) (hq : q < n) (e : plan2 g n j = io q) (ho : (gof g j).testBit q = false) : (paid2 g n d j = -io 1 ∧ hold2 g n d j = io q) ∨ ∃ i, i < d ∧ paid2 g n d j = io i ∧ hold2 g n d j = io (gda g i) ∧ gdb g i = q ∧ j % 3 = 0 := by
  have hd := K.1
  have h2 : ofb g (cl (plan2 g n j)) j = io 0 := by
    rw [e, cl_io (by omega)]; unfold ofb; rw [ho]; rfl
  have hh : hold2 g n d j = if paid2 g n d j = -io 1 then plan2 g n j else io (gda g (cl (paid2 g n d j))) := by
    unfold hold2; rw [if_neg (by omega), if_pos h2]
  rcases paid2_or (g := g) (n := n) (d := d) (j := j) with e9 | ⟨i, hi, e9⟩
  · left; exact ⟨e9, by rw [hh, if_pos e9, e]⟩
  · right
    obtain ⟨a1, a2, a3, a4, a5⟩ := paid2_ok hd hi e9
    refine ⟨i, hi, e9, ?_, ?_, a2⟩
    · rw [hh, e9, if_neg (by rw [io_neg1 (by omega)]; exact id), cl_io (by omega)]
    · rw [a4, e, cl_io (by omega)]
/-- no debt is paid where the first is off -/
theorem paid2_off {g : RG} {h n d j q : Nat} (G : ROg g h n) (K : DBg g n d) (hj : j < 126) (hn : n ≤ 8) (hq : q < n) (e : plan2 g n j = io q) (ho : (gof g j).testBit q = true) : paid2 g n d j = -io 1 := by
  rcases paid2_or (g := g) (n := n) (d := d) (j := j) with e9 | ⟨i, hi, e9⟩
  · exact e9
  · have h3 := (paid2_ok K.1 hi e9).2.2.1
    rw [e, cl_io (by omega)] at h3
    rw [ofb0 h3] at ho; cases ho
theorem cnt_rmv {p : Nat → Bool} {f : Nat → Nat} : ∀ (d i : Nat), i ≤ d → cnt (fun k => p (if k < i then k else k + 1)) d + (if p i then 1 else 0) = cnt p (d + 1) := by
  intro d
  induction d with
  | zero => intro i hi; have : i = 0 := by omega
            subst this; rfl
  | succ d ih =>
    intro i hi
    by_cases e : i = d + 1
    · subst e
      have : cnt (fun k => p (if k < d + 1 then k else k + 1)) (d + 1) = cnt p (d + 1) := cnt_ext fun k hk => by show p (if k < d + 1 then k else k + 1) = p k; rw [if_pos hk]
      rw [this]; rfl
    · have h1 := ih i (by omega)
      show cnt (fun k => p (if k < i then k else k + 1)) d + (if p (if d < i then d else d + 1) then 1 else 0) + _ = cnt p (d + 1) + (if p (d + 1) then 1 else 0)
      rw [if_neg (show ¬ d < i by omega)]
      omega
def GN (n R : Nat) (y : GS) : Prop := gho (yg y) 0 = -io 1 ∧ (∀ j, j < 126 → gof (yg y) j < 2 ^ n) ∧ (∀ j q, j < 126 → q < 8 → gho (yg y) j = io q → (gof (yg y) j).testBit q = false) ∧ (∀ i, i < yd y → gda (yg y) i ≠ gdb (yg y) i) ∧ (∀ i i', i < i' → i' < yc y → xq (ya y) i = xq (ya y) i' → xt (ya y) i + ur (yu y (xq (ya y) i)) < xt (ya y) i') ∧ (∀ i, i < yc y → xt (ya y) i + 1 ≤ ul (yu y (xq (ya y) i))) ∧ (∀ r, r < R → un (yu y r) = cnt (fun i => decide (xq (ya y) i = r)) (yc y)) ∧ ∀ i, i < yw y → gho (yg y) (xu (ya y) i / 8) = io (xp (ya y) i - 1) ∧ xt (ya y) i ≤ xu (ya y) i
theorem GN.pp {n R : Nat} {y : GS} (N : GN n R y) : GN (n + 1) R y := ⟨N.1, fun j hj => by have := N.2.1 j hj; rw [Nat.pow_succ]; omega, N.2.2⟩
/-- the rota's days off, its swaps -/
theorem GN.off {L : Nat → LR} {m n R : Nat} {y : GS} (G : GF L m n R y) (N : GN n R y) {p j : Nat} (hp : p < n) (hj : yh y / 8 < j) : GN n R (yg' y (goff (yg y) p j)) := by
  obtain ⟨n1, n2, n3, n4⟩ := N
  refine ⟨n1, fun i hi => ?_, fun i q hi hq e => ?_, n4⟩
  · show ups (gof (yg y)) j (gof (yg y) j ^^^ 2 ^ p) i < 2 ^ n
    unfold ups
    by_cases e : i = j
    · rw [if_pos e]
      exact Nat.xor_lt_two_pow (n2 j (by omega)) (Nat.pow_lt_pow_right (by decide) hp)
    · rw [if_neg e]; exact n2 i hi
  · show (ups (gof (yg y)) j (gof (yg y) j ^^^ 2 ^ p) i).testBit q = false
    have e' : gho (yg y) i = io q := e
    unfold ups
    by_cases c : i = j
    · have := (G.2.1 i hi).2.2.2 (by omega)
      rw [this, io_neg1' (by omega)] at e'; exact e'.elim
    · rw [if_neg c]; exact n3 i q hi hq e'
theorem GN.swp {n R : Nat} {y : GS} (N : GN n R y) (i j a b : Nat) : GN n R (yg' y (gswp (yg y) i j a b)) := N
/-- a rule that changes, but for its rest and rises -/
theorem GN.rule {n R : Nat} {y : GS} (N : GN n R y) {r : Nat} {x : RU} (h1 : ur x = ur (yu y r)) (h2 : ul x = ul (yu y r)) (h3 : un x = un (yu y r)) : GN n R (yu' y (ups (yu y) r x)) := by
  obtain ⟨n1, n2, n3, n4, n5, n6, n7, n8⟩ := N
  have e : ∀ q, ur (ups (yu y) r x q) = ur (yu y q) ∧ ul (ups (yu y) r x q) = ul (yu y q) ∧ un (ups (yu y) r x q) = un (yu y q) := fun q => by
    unfold ups
    by_cases c : q = r
    · rw [if_pos c, c]; exact ⟨h1, h2, h3⟩
    · rw [if_neg c]; exact ⟨rfl, rfl, rfl⟩
  refine ⟨n1, n2, n3, n4, fun i i' h h' hq => ?_, fun i hi => ?_, fun q hq => ?_, n8⟩
  · show xt (ya y) i + ur (ups (yu y) r x (xq (ya y) i)) < _
    rw [(e _).1]; exact n5 i i' h h' hq
  · show _ ≤ ul (ups (yu y) r x (xq (ya y) i))
    rw [(e _).2.1]; exact n6 i hi
  · show un (ups (yu y) r x q) = _
    rw [(e _).2.2]; exact n7 q hq
theorem GN.made {L : Nat → LR} {m n R : Nat} {y : GS} (G : GF L m n R y) (N : GN n R y) {x : RU} (h : un x = 0) : GN n (R + 1) (yu' y (ups (yu y) R x)) := by
  obtain ⟨n1, n2, n3, n4, n5, n6, n7, n8⟩ := N
  have hx : ∀ i, i < yc y → xq (ya y) i < R := fun i hi => (G.2.2.2.1.2.2.2 i hi).1
  have e : ∀ q, q < R → ups (yu y) R x q = yu y q := fun q hq => if_neg (by omega)
  refine ⟨n1, n2, n3, n4, fun i i' h h' hq => ?_, fun i hi => ?_, fun q hq => ?_, n8⟩
  · show xt (ya y) i + ur (ups (yu y) R x (xq (ya y) i)) < _
    have h'9 : i' < yc y := h'
    rw [e _ (hx i (by omega))]; exact n5 i i' h h' hq
  · show _ ≤ ul (ups (yu y) R x (xq (ya y) i))
    rw [e _ (hx i hi)]; exact n6 i hi
  · show un (ups (yu y) R x q) = cnt (fun i => decide (xq (ya y) i = q)) (yc y)
    by_cases c : q = R
    · have : cnt (fun i => decide (xq (ya y) i = q)) (yc y) = 0 := by
        rw [cnt_tail (Nat.zero_le _) (fun i _ hi => by have := hx i hi; simp; omega)]; rfl
      rw [this]
      unfold ups
      rw [if_pos c]; exact h
    · rw [e q (by omega)]; exact n7 q (by omega)
theorem GN.ans {n R : Nat} {y : GS} (N : GN n R y) (i : Nat) : GN n R (yan y i) := N
theorem GN.owe {n R : Nat} {y : GS} (N : GN n R y) {i a b : Nat} (hab : a ≠ b) : GN n R (yow y i a b) := by
  obtain ⟨n1, n2, n3, n4, n5⟩ := N
  refine ⟨n1, n2, n3, fun k hk => ?_, n5⟩
  show ups (gda (yg y)) (yd y) a k ≠ ups (gdb (yg y)) (yd y) b k
  have hk' : k < yd y + 1 := hk
  unfold ups
  by_cases c : k = yd y
  · rw [if_pos c, if_pos c]; exact hab
  · rw [if_neg c, if_neg c]; exact n4 k (by omega)
