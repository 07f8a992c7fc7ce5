/-! what the law's arrays know of the world -/
def rlow (u : RU) (f : Nat → Int32) (b : Nat) : Prop := f b = io (uo u) ∧ f (b + 1) = io (uw u) ∧ f (b + 2) = io (ur u) ∧ f (b + 3) = io (if ud u = 0 then 0 else 1) ∧ f (b + 4) = io (us u).length ∧ ∀ i (h : i < (us u).length), f (b + 5 + i) = io ((us u)[i].1 + 1024 * (us u)[i].2)
def APx (A : LA) (w : WD) : Prop := A 39 0 = io (vn w) ∧ A 39 1 = io (vR w) ∧ A 39 2 = io (vm w) ∧ A 39 3 = io (yd (vy w))
def AFx (A : LA) (w : WD) : Prop := ∀ j, j < 64 → A 41 j = io (gof (yg (vy w)) j)
def ARx (A : LA) (w : WD) : Prop := (∀ r, r < vR w → rlow (yu (vy w) r) (A 42) (12 * r)) ∧ ∀ r, vR w ≤ r → r < 4 → A 42 (12 * r + 3) = io 0 ∧ A 42 (12 * r + 4) = io 0
def AAx (A : LA) (w : WD) : Prop := ∀ i, i < 64 → A 44 i = io (if i < yc (vy w) then xa (ya (vy w)) i else 0)
def LVx (A : LA) (w : WD) : Prop := APx A w ∧ GH A w ∧ AFx A w ∧ ARx A w ∧ AAx A w ∧ GN (vn w) (vR w) (vy w) ∧ vm w ≤ 60 ∧ yh (vy w) ≤ 440
/-- only what the world says but for the text, and the array 43, counts not -/
theorem LVx.to {A A' : LA} {w w' : WD} (h : LVx A w) (e : ∀ k, k ≠ 43 → A' k = A k) (h1 : vy w' = vy w) (h2 : vL w' = vL w) (h3 : vm w' = vm w) (h4 : vn w' = vn w) (h5 : vR w' = vR w) : LVx A' w' := by
  obtain ⟨p, g, f, r, a, n, m, y⟩ := h
  unfold LVx APx GH AFx ARx AAx
  rw [h1, h2, h3, h4, h5, e 39 (by decide), e 40 (by decide), e 41 (by decide), e 42 (by decide), e 44 (by decide)]
  exact ⟨p, g, f, r, a, n, m, y⟩
theorem LVx.tx {A A' : LA} {w w' : WD} (h : LVx A w) (p : TPx w A w' A') : LVx A' w' := by
  obtain ⟨⟨l, rfl⟩, e⟩ := p
  exact h.to e rfl rfl rfl rfl rfl
/-! sums -/
def smf (f : Nat → Nat) : Nat → Nat
  | 0 => 0
  | n + 1 => smf f n + f n
theorem smf_ext {f g : Nat → Nat} : ∀ n, (∀ k, k < n → f k = g k) → smf f n = smf g n := by
  intro n
  induction n with
  | zero => intro _; rfl
  | succ n ih => intro h; show smf f n + f n = smf g n + g n; rw [ih (fun k hk => h k (by omega)), h n (by omega)]
theorem smf_add (f g : Nat → Nat) : ∀ n, smf (fun k => f k + g k) n = smf f n + smf g n := by
  intro n
  induction n with
  | zero => rfl
  | succ n ih => show smf _ n + (f n + g n) = smf f n + f n + (smf g n + g n); rw [ih]; omega
theorem smf_z : ∀ n, smf (fun _ => 0) n = 0 := by
  intro n
  induction n with
  | zero => rfl
  | succ n ih => show smf _ n + 0 = 0; rw [ih]
theorem smf_pt {v : Nat} : ∀ n, smf (fun k => if v = k then 1 else 0) n = if v < n then 1 else 0 := by
  intro n
  induction n with
  | zero => rfl
  | succ n ih =>
    show smf _ n + (if v = n then 1 else 0) = _
    rw [ih]
    by_cases h1 : v < n
    · rw [if_pos h1, if_neg (by omega), if_pos (by omega)]
    · rw [if_neg h1]
      by_cases h2 : v = n
      · rw [if_pos h2, if_pos (by omega)]
      · rw [if_neg h2, if_neg (by omega)]
theorem smf_mono (f : Nat → Nat) {a b : Nat} (h : a ≤ b) : smf f a ≤ smf f b := by
  induction b with
  | zero => rw [show a = 0 by omega]; exact Nat.le_refl _
  | succ b ih =>
    show _ ≤ smf f b + f b
    by_cases e : a = b + 1
    · rw [e]; exact Nat.le_refl _
    · have := ih (by omega); omega
/-- each that counts is counted once -/
theorem smf_cnt {P : Nat → Bool} {v : Nat → Nat} {n : Nat} : ∀ N, (∀ j, j < N → P j = true → v j < n) → smf (fun q => cnt (fun j => P j && decide (v j = q)) N) n = cnt P N := by
  intro N
  induction N with
  | zero => intro _; exact smf_z n
  | succ N ih =>
    intro h
    show smf (fun q => cnt (fun j => P j && decide (v j = q)) N + (if (P N && decide (v N = q)) = true then 1 else 0)) n = cnt P N + (if P N = true then 1 else 0)
    rw [smf_add, ih (fun j hj => h j (by omega))]
    by_cases hp : P N = true
    · have e : smf (fun q => if (P N && decide (v N = q)) = true then 1 else 0) n = smf (fun q => if v N = q then 1 else 0) n := smf_ext n fun q _ => by rw [hp]; simp
      rw [e, smf_pt, if_pos (h N (by omega) hp), if_pos hp]
    · have e : smf (fun q => if (P N && decide (v N = q)) = true then 1 else 0) n = 0 := by
        rw [smf_ext (g := fun _ => 0) n (fun q _ => by simp [hp])]; exact smf_z n
      rw [e, if_neg hp]
/-- the nights that somebody held -/
def nhd (g : RG) (j : Nat) : Bool := decide (j % 3 = 0 ∧ gho g j ≠ -io 1)
theorem ngt_sum {g : RG} {h n : Nat} (G : ROg g h n) (hn : n ≤ 8) : smf (ngt g) n = cnt (nhd g) 126 := by
  rw [← smf_cnt (P := nhd g) (v := fun j => cl (gho g j)) (n := n) 126 (fun j hj hp => by
    have h1 : j % 3 = 0 ∧ gho g j ≠ -io 1 := by simpa [nhd] using hp
    rcases (G j hj).2.2.1 with h2 | ⟨q, hq, h2⟩
    · exact absurd h2 h1.2
    · rw [h2, cl_io (by omega)]; exact hq)]
  refine smf_ext n fun q hq => ?_
  unfold ngt
  refine cnt_ext fun j hj => ?_
  unfold nhd
  rcases (G j hj).2.2.1 with h2 | ⟨p, hp, h2⟩
  · have e1 : ¬ (-io 1 : Int32) = io q := by rw [io_neg1' (by omega)]; exact id
    rw [h2]
    simp [e1]
  · have e1 : ¬ io p = -io 1 := by rw [io_neg1 (by omega)]; exact id
    have e2 : (io p = io q) = (p = q) := io_eq (by omega) (by omega)
    rw [h2, cl_io (by omega)]
    simp [e1, e2]
theorem nhd_now {g : RG} {h n : Nat} (G : ROg g h n) (hh : h / 8 < 126) : cnt (nhd g) 126 = cnt (nhd g) (h / 8 + 1) := by
  refine cnt_tail (by omega) (fun i h1 h2 => ?_)
  have := (G i h2).2.2.2 (by omega)
  unfold nhd
  rw [this]; simp
/-- all debts -/
def rwo (g : RG) (d a n : Nat) : Nat := smf (fun b => owe g d a b) n
theorem owe_sum {g : RG} {n d : Nat} (K : DBg g n d) : smf (fun a => rwo g d a n) n = d := by
  have e : ∀ a, a < n → rwo g d a n = cnt (fun i => decide (gda g i = a)) d := fun a _ => by
    unfold rwo
    rw [← smf_cnt (P := fun i => decide (gda g i = a)) (v := gdb g) (n := n) d (fun j hj _ => (K.2 j hj).2)]
    refine smf_ext n fun b _ => ?_
    unfold owe
    exact cnt_ext fun i _ => by simp
  rw [smf_ext n e]
  have h2 := smf_cnt (P := fun _ => true) (v := gda g) (n := n) d (fun j hj _ => (K.2 j hj).1)
  have h3 : cnt (fun _ => true) d = d := by
    have : ∀ N, cnt (fun _ => true) N = N := by
      intro N
      induction N with
      | zero => rfl
      | succ N ih => show cnt _ N + 1 = N + 1; rw [ih]
    exact this d
  have e2 : ∀ q, q < n → cnt (fun i => decide (gda g i = q)) d = cnt (fun j => true && decide (gda g j = q)) d := fun q _ => cnt_ext fun j _ => by simp
  rw [smf_ext n e2]
  exact h2.trans h3
theorem owe_self {g : RG} {d q : Nat} (h : ∀ i, i < d → gda g i ≠ gdb g i) : owe g d q q = 0 := by
  unfold owe
  rw [cnt_tail (Nat.zero_le d) (fun i _ hi => by
    have := h i hi
    simp
    intro h1 h2
    exact this (h1.trans h2.symm))]
  rfl
theorem owe_pos {g : RG} {d i : Nat} (hi : i < d) : 1 ≤ owe g d (gda g i) (gdb g i) := cnt_ge1 (p := fun k => decide (gda g k = gda g i ∧ gdb g k = gdb g i)) (a := i) (by simp) d hi
/-! bits -/
theorem bitq {v q : Nat} (hv : v < 256) (hq : q < 8) : ((io v >>> (io q &&& 31)) &&& 1) = io (if v.testBit q then 1 else 0) := by
  have e1 : io q &&& 31 = io q := by
    have : io q &&& io 31 = io (q &&& 31) := io_and _ _
    rw [and31 (by omega)] at this; exact this
  have e2 : io v >>> io q = io (v >>> q) := io_shr (by omega) (by omega)
  have e3 : io (v >>> q) &&& 1 = io (v >>> q &&& 1) := io_and _ 1
  rw [e1, e2, e3, bit_tb]
theorem all_off {v n : Nat} (hv : v < 2 ^ n) (h : ∀ q, q < n → v.testBit q = true) : v = 2 ^ n - 1 := by
  refine Nat.eq_of_testBit_eq fun i => ?_
  rw [Nat.testBit_two_pow_sub_one]
  by_cases hi : i < n
  · rw [h i hi]; simp [hi]
  · rw [Nat.testBit_lt_two_pow (Nat.lt_of_lt_of_le hv (Nat.pow_le_pow_right (by decide) (by omega)))]; simp [hi]
theorem shl1 {n : Nat} (hn : n ≤ 8) : ((1 : Int32) <<< (io n &&& 31)) - 1 = io (2 ^ n - 1) := by
  have e1 : io n &&& 31 = io n := by
    have : io n &&& io 31 = io (n &&& 31) := io_and _ _
    rw [and31 (by omega)] at this; exact this
  have e2 : (1 : Int32) <<< io n = io (1 <<< n) := io_shl (a := 1) (by omega)
  have h1 : 1 ≤ 2 ^ n := Nat.one_le_two_pow
  rw [e1, e2, one_shl]
  exact io_sub h1
