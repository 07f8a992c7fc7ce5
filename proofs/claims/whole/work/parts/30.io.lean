/-! whole numbers as Int32, and what writes leave -/
def io (n : Nat) : Int32 := Int32.ofNat n
theorem io_toInt {n : Nat} (h : n < 2147483648) : (io n).toInt = (n : Int) := Int32.toInt_ofNat_of_lt (by omega)
theorem i32_lit (n : Nat) : (OfNat.ofNat n : Int32) = io n := rfl
theorem io_lt {a b : Nat} (ha : a < 2147483648) (hb : b < 2147483648) : (io a < io b) = (a < b) := by
  rw [Int32.lt_iff_toInt_lt, io_toInt ha, io_toInt hb]; simp
theorem io_le {a b : Nat} (ha : a < 2147483648) (hb : b < 2147483648) : (io a ≤ io b) = (a ≤ b) := by
  rw [Int32.le_iff_toInt_le, io_toInt ha, io_toInt hb]; simp
theorem io_eq {a b : Nat} (ha : a < 2147483648) (hb : b < 2147483648) : (io a = io b) = (a = b) := by
  rw [← Int32.toInt_inj, io_toInt ha, io_toInt hb]; exact propext Int.ofNat_inj
theorem io_inj {a b : Nat} (ha : a < 2147483648) (hb : b < 2147483648) (h : io a = io b) : a = b := by rwa [io_eq ha hb] at h
theorem neg_one_toInt : (-io 1).toInt = -1 := by decide
theorem io_neg1 {a : Nat} (ha : a < 2147483648) : (io a = -io 1) = False := by
  rw [← Int32.toInt_inj, io_toInt ha, neg_one_toInt]; exact eq_false (by omega)
theorem io_neg1' {a : Nat} (ha : a < 2147483648) : (-io 1 = io a) = False := by
  rw [← Int32.toInt_inj, io_toInt ha, neg_one_toInt]; exact eq_false (by omega)
theorem neg1_lt {a : Nat} (ha : a < 2147483648) : (-io 1 < io a) = True := by
  rw [Int32.lt_iff_toInt_lt, io_toInt ha, neg_one_toInt]; exact eq_true (by omega)
theorem io_le_neg1 {a : Nat} (ha : a < 2147483648) : (io a ≤ -io 1) = False := by
  rw [Int32.le_iff_toInt_le, io_toInt ha, neg_one_toInt]; exact eq_false (by omega)
theorem io_lt_neg1 {a : Nat} (ha : a < 2147483648) : (io a < -io 1) = False := by
  rw [Int32.lt_iff_toInt_lt, io_toInt ha, neg_one_toInt]; exact eq_false (by omega)
theorem io_add (a b : Nat) : io a + io b = io (a + b) := (Int32.ofNat_add a b).symm
theorem io_mul (a b : Nat) : io a * io b = io (a * b) := (Int32.ofNat_mul a b).symm
theorem io_sub {a b : Nat} (h : b ≤ a) : io a - io b = io (a - b) := by
  have h1 : io (a - b) + io b = io a := by rw [io_add]; congr 1; omega
  rw [← h1, Int32.add_sub_cancel]
theorem io_pred {a : Nat} (h : 1 ≤ a) : io a + -io 1 = io (a - 1) := by
  rw [← Int32.sub_eq_add_neg, io_sub h]
theorem i32_add {x y : Int32} (h1 : -2147483648 ≤ x.toInt + y.toInt) (h2 : x.toInt + y.toInt < 2147483648) : (x + y).toInt = x.toInt + y.toInt := by
  rw [Int32.toInt_add, Int.bmod_eq_of_le (by omega) (by omega)]
theorem i32_sub {x y : Int32} (h1 : -2147483648 ≤ x.toInt - y.toInt) (h2 : x.toInt - y.toInt < 2147483648) : (x - y).toInt = x.toInt - y.toInt := by
  rw [Int32.toInt_sub, Int.bmod_eq_of_le (by omega) (by omega)]
theorem io_div {a b : Nat} (ha : a < 2147483648) (hb : b < 2147483648) : io a / io b = io (a / b) := by
  have h3 : a / b < 2147483648 := Nat.lt_of_le_of_lt (Nat.div_le_self a b) ha
  rw [← Int32.toInt_inj, Int32.toInt_div, io_toInt ha, io_toInt hb, io_toInt h3, ← Int.ofNat_tdiv]
  generalize a / b = q at h3
  exact Int.bmod_eq_of_le (by omega) (by omega)
theorem io_mod {a b : Nat} (ha : a < 2147483648) (hb : b < 2147483648) : io a - io a / io b * io b = io (a % b) := by
  have h := Nat.div_add_mod a b
  have h2 : b * (a / b) ≤ a := Nat.mul_div_le a b
  rw [io_div ha hb, io_mul, io_sub (by rw [Nat.mul_comm]; exact h2), Nat.mul_comm]
  congr 1
  omega
theorem natMod (a b : Nat) : a - a / b * b = a % b := by
  have h := Nat.div_add_mod a b
  rw [Nat.mul_comm] at h
  omega
theorem io_modE (a b : Nat) : io a - io (a / b * b) = io (a % b) := by
  have h2 : a / b * b ≤ a := Nat.div_mul_le_self a b
  rw [io_sub h2, natMod]
theorem io_clamp {a : Nat} (ha : a < 2147483648) : (io a).toNatClampNeg = a := by
  unfold Int32.toNatClampNeg
  rw [io_toInt ha]; rfl
theorem ix_io {m a : Nat} (h : a < m) (hm : m ≤ 2147483648) : ix m (io a) = some a := by
  unfold ix
  have h0 : ¬ (io a < 0) := by
    show ¬ (io a < io 0)
    rw [io_lt (by omega) (by omega)]; omega
  rw [io_clamp (by omega), if_neg (fun h1 => h1.elim h0 (fun h2 => by omega))]
/-- a number that is not below 0 is one of these -/
theorem io_of {x : Int32} (h : io 0 ≤ x) : x = io x.toNatClampNeg ∧ x.toNatClampNeg < 2147483648 := by
  rw [Int32.le_iff_toInt_le, io_toInt (by omega)] at h
  have h2 : x.toInt < 2147483648 := Int32.toInt_lt x
  have h3 : x.toNatClampNeg < 2147483648 := by unfold Int32.toNatClampNeg; omega
  refine ⟨?_, h3⟩
  rw [← Int32.toInt_inj, io_toInt h3]
  unfold Int32.toNatClampNeg
  omega
theorem i32_nlt {x y : Int32} : (¬ x < y) = (y ≤ x) := by rw [Int32.lt_iff_toInt_lt, Int32.le_iff_toInt_le]; simp
theorem i32_nle {x y : Int32} : (¬ x ≤ y) = (y < x) := by rw [Int32.lt_iff_toInt_lt, Int32.le_iff_toInt_le]; simp
/-- between 0 and b -/
theorem io_in {x : Int32} {b : Nat} (hb : b < 2147483648) (h : io 0 ≤ x) (h2 : x ≤ io b) : ∃ p, x = io p ∧ p ≤ b := by
  obtain ⟨e, hl⟩ := io_of h
  refine ⟨x.toNatClampNeg, e, ?_⟩
  rw [e, io_le hl hb] at h2
  exact h2
section UP
variable (s : St) (k i j a : Nat) (x : Int32) (y : Int64) (r : Option Nat) (c : Dy) (n : Nat)
theorem gI_sI : gI (sI s k x) j = if j = k then x else gI s j := rfl
theorem gI_sA : gI (sA s k i x) = gI s := rfl
theorem gI_sL : gI (sL s k y) = gI s := rfl
theorem gI_sJ : gI (sJ s k i y) = gI s := rfl
theorem gI_sR : gI (sR s k r) = gI s := rfl
theorem gI_sQ : gI (sQ s k i r) = gI s := rfl
theorem gI_sD : gI (sD s k c) = gI s := rfl
theorem gI_sN : gI (sN s c) = gI s := rfl
theorem gI_sz : gI (sz' s n) = gI s := rfl
theorem gA_sI : gA (sI s k x) = gA s := rfl
theorem gA_sA : gA (sA s k i x) a j = if a = k then (if j = i then x else gA s k j) else gA s a j := by
  show ups (gA s) k (ups (gA s k) i x) a j = _
  unfold ups
  by_cases h : a = k
  · rw [if_pos h, if_pos h]
  · rw [if_neg h, if_neg h]
theorem gA_sL : gA (sL s k y) = gA s := rfl
theorem gA_sJ : gA (sJ s k i y) = gA s := rfl
theorem gA_sR : gA (sR s k r) = gA s := rfl
theorem gA_sQ : gA (sQ s k i r) = gA s := rfl
theorem gA_sD : gA (sD s k c) = gA s := rfl
theorem gA_sN : gA (sN s c) = gA s := rfl
theorem gA_sz : gA (sz' s n) = gA s := rfl
theorem gL_sI : gL (sI s k x) = gL s := rfl
theorem gL_sA : gL (sA s k i x) = gL s := rfl
theorem gL_sL : gL (sL s k y) j = if j = k then y else gL s j := rfl
theorem gL_sJ : gL (sJ s k i y) = gL s := rfl
theorem gL_sR : gL (sR s k r) = gL s := rfl
theorem gL_sQ : gL (sQ s k i r) = gL s := rfl
theorem gL_sD : gL (sD s k c) = gL s := rfl
theorem gL_sN : gL (sN s c) = gL s := rfl
theorem gL_sz : gL (sz' s n) = gL s := rfl
theorem gJ_sI : gJ (sI s k x) = gJ s := rfl
theorem gJ_sA : gJ (sA s k i x) = gJ s := rfl
theorem gJ_sL : gJ (sL s k y) = gJ s := rfl
theorem gJ_sJ : gJ (sJ s k i y) a j = if a = k then (if j = i then y else gJ s k j) else gJ s a j := by
  show ups (gJ s) k (ups (gJ s k) i y) a j = _
  unfold ups
  by_cases h : a = k
  · rw [if_pos h, if_pos h]
  · rw [if_neg h, if_neg h]
theorem gJ_sR : gJ (sR s k r) = gJ s := rfl
theorem gJ_sQ : gJ (sQ s k i r) = gJ s := rfl
theorem gJ_sD : gJ (sD s k c) = gJ s := rfl
theorem gJ_sN : gJ (sN s c) = gJ s := rfl
theorem gJ_sz : gJ (sz' s n) = gJ s := rfl
theorem gR_sI : gR (sI s k x) = gR s := rfl
theorem gR_sA : gR (sA s k i x) = gR s := rfl
theorem gR_sL : gR (sL s k y) = gR s := rfl
theorem gR_sJ : gR (sJ s k i y) = gR s := rfl
theorem gR_sR : gR (sR s k r) j = if j = k then r else gR s j := rfl
theorem gR_sQ : gR (sQ s k i r) = gR s := rfl
theorem gR_sD : gR (sD s k c) = gR s := rfl
theorem gR_sN : gR (sN s c) = gR s := rfl
theorem gR_sz : gR (sz' s n) = gR s := rfl
theorem gQ_sI : gQ (sI s k x) = gQ s := rfl
theorem gQ_sA : gQ (sA s k i x) = gQ s := rfl
theorem gQ_sL : gQ (sL s k y) = gQ s := rfl
theorem gQ_sJ : gQ (sJ s k i y) = gQ s := rfl
theorem gQ_sR : gQ (sR s k r) = gQ s := rfl
theorem gQ_sQ : gQ (sQ s k i r) a j = if a = k then (if j = i then r else gQ s k j) else gQ s a j := by
  show ups (gQ s) k (ups (gQ s k) i r) a j = _
  unfold ups
  by_cases h : a = k
  · rw [if_pos h, if_pos h]
  · rw [if_neg h, if_neg h]
theorem gQ_sD : gQ (sD s k c) = gQ s := rfl
theorem gQ_sN : gQ (sN s c) = gQ s := rfl
theorem gQ_sz : gQ (sz' s n) = gQ s := rfl
theorem gD_sI : gD (sI s k x) = gD s := rfl
theorem gD_sA : gD (sA s k i x) = gD s := rfl
theorem gD_sL : gD (sL s k y) = gD s := rfl
theorem gD_sJ : gD (sJ s k i y) = gD s := rfl
theorem gD_sR : gD (sR s k r) = gD s := rfl
theorem gD_sQ : gD (sQ s k i r) = gD s := rfl
theorem gD_sD : gD (sD s k c) j = if j = k then some c else gD s j := rfl
theorem gD_sN : gD (sN s c) j = if j = sz s then some c else gD s j := rfl
theorem gD_sz : gD (sz' s n) = gD s := rfl
theorem sz_sI : sz (sI s k x) = sz s := rfl
theorem sz_sA : sz (sA s k i x) = sz s := rfl
theorem sz_sL : sz (sL s k y) = sz s := rfl
theorem sz_sJ : sz (sJ s k i y) = sz s := rfl
theorem sz_sR : sz (sR s k r) = sz s := rfl
theorem sz_sQ : sz (sQ s k i r) = sz s := rfl
theorem sz_sD : sz (sD s k c) = sz s := rfl
theorem sz_sN : sz (sN s c) = sz s + 1 := rfl
theorem sz_sz : sz (sz' s n) = n := rfl
end UP
theorem lt_def {α β : Type} (e : α) (f : α → β) : lt e f = f e := rfl
theorem P_isIn_eq (F : Nat) (s : St) (a b c : Int32) : f_P_isIn F s a b c = some (if a < b ∨ c < a then 0 else 1, s) := by
  unfold f_P_isIn
  by_cases h : a < b
  · simp [h]
  · by_cases h2 : c < a <;> simp [h, h2]
theorem M_isIn_eq (F : Nat) (s : St) (a b c : Int32) : f_M_isIn F s a b c = some (if a < b ∨ c < a then 0 else 1, s) := by
  unfold f_M_isIn
  by_cases h : a < b
  · simp [h]
  · by_cases h2 : c < a <;> simp [h, h2]
theorem M_goes_eq (F : Nat) (s : St) (a : Int32) : f_M_goes F s a = some (if a = 0 then 1 else 0, sI s 2551 a) := by
  unfold f_M_goes lt
  by_cases h : a = 0 <;> simp [h]
