/-! a log comes in -/
theorem P_order {F m hr x : Nat} (hF : 5000 ≤ F) {s : St} (hm : m < 100) (hhr : hr ≤ 1000) (hx : x ≤ m) (e : gA s 10 (hr + 1) = io x) : f_Logs_putInOrder F s (io m) (io hr) = some (sa (sA (so s x (m - x)) 9 x (io m)) (hr + 1) (1001 - hr)) := by
  have h1 : ¬ 1000 < hr := by omega
  have h2 : ¬ 99 < m := by omega
  have h3 : ¬ m < x := by omega
  have hl := so_loop (F := F) hF (x := x) (hr := hr) (by omega) hhr (l1 := io m) (m - x) F s (by omega) (by omega)
  rw [show x + (m - x) = m by omega] at hl
  simp (disch := omega) only [f_Logs_putInOrder, Option.bind_some, Nat.reduceEqDiff, Nat.add_zero, Nat.zero_add, Nat.reduceLT, Nat.reduceLeDiff, Nat.reduceAdd, Nat.reduceSub, Nat.reduceMul, Nat.reduceDiv, Nat.lt_irrefl, Nat.not_lt_zero, Nat.zero_le, Nat.one_ne_zero, Nat.succ_ne_zero,  lt_def, i32_lit, reduceIte, P_isIn_eq, M_isIn_eq, M_goes_eq, or_false, false_or, or_true, true_or, and_true, true_and, and_false, false_and, not_true, not_false_eq_true, eq_self, if_true, if_false, not_or, not_and, Nat.not_lt, Nat.not_le, io_lt, io_eq, h1, h2, h3, io_add, ix_io, e]
  exact hl
theorem lins_at {L : Nat → LR} {x m k : Nat} {r : LR} (hk : k < m + 1) (hx : x ≤ m) : (k < x ∧ k < m ∧ lins L x r k = L k) ∨ (k = x ∧ lins L x r k = r) ∨ (x < k ∧ k - 1 < m ∧ lins L x r k = L (k - 1)) := by
  unfold lins
  by_cases c1 : k < x
  · exact Or.inl ⟨c1, by omega, if_pos c1⟩
  · by_cases c2 : k = x
    · exact Or.inr (Or.inl ⟨c2, by rw [if_neg c1, if_pos c2]⟩)
    · exact Or.inr (Or.inr ⟨by omega, by omega, by rw [if_neg c1, if_neg c2]⟩)
theorem P_logAdd {F h hr m : Nat} (hF : 5000 ≤ F) {s : St} {L : Nat → LR} {p l : Nat} {v : Int32} (hh : h ≤ 1000) (hhr : hr ≤ h) (hm : m < 100) (C : LGc s L m) (G : LGg L m h) :
    ∃ s', f_Logs_add F s (io p) (io l) v (io hr) (io h) = some (io m, s') ∧ LGc s' (lins L (lplace L m hr) (p, l, v, hr, h, m)) (m + 1) ∧ Fr [200] [4, 5, 6, 7, 8, 9, 10] s s' := by
  have hx := lplace_le L m hr
  have e200 := C.1
  have ex : gA s 10 (hr + 1) = io (lplace L m hr) := C.2.2 (hr + 1) (by omega)
  generalize hX : lplace L m hr = x at hx ex
  have h0 : ¬ m < 0 := by omega
  have h1 : ¬ 100 ≤ m := by omega
  have h2 : ¬ 1000 < hr := by omega
  have ho := P_order (F := F) (hr := hr) hF (s := sA (sA (sA (sA (sA s 4 m (io p)) 5 m (io l)) 6 m v) 7 m (io hr)) 8 m (io h)) hm (by omega) hx (by simp only [gI_sI, gI_sA, gI_sL, gI_sJ, gI_sR, gI_sQ, gI_sD, gI_sN, gI_sz, gA_sI, gA_sA, gA_sL, gA_sJ, gA_sR, gA_sQ, gA_sD, gA_sN, gA_sz, gL_sI, gL_sA, gL_sL, gL_sJ, gL_sR, gL_sQ, gL_sD, gL_sN, gL_sz, gJ_sI, gJ_sA, gJ_sL, gJ_sJ, gJ_sR, gJ_sQ, gJ_sD, gJ_sN, gJ_sz, gR_sI, gR_sA, gR_sL, gR_sJ, gR_sR, gR_sQ, gR_sD, gR_sN, gR_sz, gQ_sI, gQ_sA, gQ_sL, gQ_sJ, gQ_sR, gQ_sQ, gQ_sD, gQ_sN, gQ_sz, gD_sI, gD_sA, gD_sL, gD_sJ, gD_sR, gD_sQ, gD_sD, gD_sN, gD_sz, sz_sI, sz_sA, sz_sL, sz_sJ, sz_sR, sz_sQ, sz_sD, sz_sN, sz_sz, reduceIte, Nat.reduceEqDiff]; exact ex)
  generalize hs5 : sA (sA (sA (sA (sA s 4 m (io p)) 5 m (io l)) 6 m v) 7 m (io hr)) 8 m (io h) = s5 at ho
  have f5 : Fr [] [4, 5, 6, 7, 8] s s5 := by rw [← hs5]; exact ((((Fr.rf.A (by decide)).A (by decide)).A (by decide)).A (by decide)).A (by decide)
  have f6 : Fr [] [9, 10] s5 (sa (sA (so s5 x (m - x)) 9 x (io m)) (hr + 1) (1001 - hr)) := (((so_fr _ _ _).wide (by decide) (by decide)).A (by decide)).trans ((sa_fr _ _ _).wide (by decide) (by decide))
  have a9 : ∀ j, gA (sa (sA (so s5 x (m - x)) 9 x (io m)) (hr + 1) (1001 - hr)) 9 j = if j = x then io m else if x < j ∧ j ≤ m then gA s 9 (j - 1) else gA s 9 j := fun j => by
    rw [(sa_fr _ _ _).ga 9 (by decide), gA_sA, if_pos rfl, so_at, show x + (m - x) = m by omega, f5.ga 9 (by decide)]
  have a10 : ∀ j, gA (sa (sA (so s5 x (m - x)) 9 x (io m)) (hr + 1) (1001 - hr)) 10 j = if hr + 1 ≤ j ∧ j < 1002 then gA s 10 j + io 1 else gA s 10 j := fun j => by
    rw [sa_at, show hr + 1 + (1001 - hr) = 1002 by omega, gA_sA, if_neg (show ¬ (10 : Nat) = 9 by decide), (so_fr _ _ _).ga 10 (by decide), f5.ga 10 (by decide)]
  generalize hs6 : sa (sA (so s5 x (m - x)) 9 x (io m)) (hr + 1) (1001 - hr) = s6 at ho f6 a9 a10
  refine ⟨sI s6 200 (io (m + 1)), ?_, ⟨rfl, fun k hk => ?_, fun y hy => ?_⟩, ((f5.wide (by decide) (by decide)).trans (f6.wide (by decide) (by decide))).I (by decide)⟩
  · have e2 : gI s6 200 = io m := by rw [f6.gi 200 (by decide), f5.gi 200 (by decide)]; exact e200
    have ho' : f_Logs_putInOrder F (sA (sA (sA (sA (sA s 4 m (io p)) 5 m (io l)) 6 m v) 7 m (io hr)) 8 m (io h)) (io m) (io hr) = some s6 := by rw [hs5]; exact ho
    simp (disch := omega) only [f_Logs_add, Option.bind_some, Nat.reduceEqDiff, Nat.add_zero, Nat.zero_add, Nat.reduceLT, Nat.reduceLeDiff, Nat.reduceAdd, Nat.reduceSub, Nat.reduceMul, Nat.reduceDiv, Nat.lt_irrefl, Nat.not_lt_zero, Nat.zero_le, Nat.one_ne_zero, Nat.succ_ne_zero,  lt_def, i32_lit, reduceIte, P_isIn_eq, M_isIn_eq, M_goes_eq, or_false, false_or, or_true, true_or, and_true, true_and, and_false, false_and, not_true, not_false_eq_true, eq_self, if_true, if_false, not_or, not_and, Nat.not_lt, Nat.not_le, io_lt, io_le, io_eq, h0, h1, h2, e200, ix_io, gI_sI, gI_sA, gI_sL, gI_sJ, gI_sR, gI_sQ, gI_sD, gI_sN, gI_sz, gA_sI, gA_sA, gA_sL, gA_sJ, gA_sR, gA_sQ, gA_sD, gA_sN, gA_sz, gL_sI, gL_sA, gL_sL, gL_sJ, gL_sR, gL_sQ, gL_sD, gL_sN, gL_sz, gJ_sI, gJ_sA, gJ_sL, gJ_sJ, gJ_sR, gJ_sQ, gJ_sD, gJ_sN, gJ_sz, gR_sI, gR_sA, gR_sL, gR_sJ, gR_sR, gR_sQ, gR_sD, gR_sN, gR_sz, gQ_sI, gQ_sA, gQ_sL, gQ_sJ, gQ_sR, gQ_sQ, gQ_sD, gQ_sN, gQ_sz, gD_sI, gD_sA, gD_sL, gD_sJ, gD_sR, gD_sQ, gD_sD, gD_sN, gD_sz, sz_sI, sz_sA, sz_sL, sz_sJ, sz_sR, sz_sQ, sz_sD, sz_sN, sz_sz, ho', e2, io_add, io_sub, Nat.add_sub_cancel]
  · have b4 : ∀ j, gA s6 4 j = if j = m then io p else gA s 4 j := fun j => by rw [f6.ga 4 (by decide), ← hs5]; simp only [gI_sI, gI_sA, gI_sL, gI_sJ, gI_sR, gI_sQ, gI_sD, gI_sN, gI_sz, gA_sI, gA_sA, gA_sL, gA_sJ, gA_sR, gA_sQ, gA_sD, gA_sN, gA_sz, gL_sI, gL_sA, gL_sL, gL_sJ, gL_sR, gL_sQ, gL_sD, gL_sN, gL_sz, gJ_sI, gJ_sA, gJ_sL, gJ_sJ, gJ_sR, gJ_sQ, gJ_sD, gJ_sN, gJ_sz, gR_sI, gR_sA, gR_sL, gR_sJ, gR_sR, gR_sQ, gR_sD, gR_sN, gR_sz, gQ_sI, gQ_sA, gQ_sL, gQ_sJ, gQ_sR, gQ_sQ, gQ_sD, gQ_sN, gQ_sz, gD_sI, gD_sA, gD_sL, gD_sJ, gD_sR, gD_sQ, gD_sD, gD_sN, gD_sz, sz_sI, sz_sA, sz_sL, sz_sJ, sz_sR, sz_sQ, sz_sD, sz_sN, sz_sz, reduceIte, Nat.reduceEqDiff]
    have b5 : ∀ j, gA s6 5 j = if j = m then io l else gA s 5 j := fun j => by rw [f6.ga 5 (by decide), ← hs5]; simp only [gI_sI, gI_sA, gI_sL, gI_sJ, gI_sR, gI_sQ, gI_sD, gI_sN, gI_sz, gA_sI, gA_sA, gA_sL, gA_sJ, gA_sR, gA_sQ, gA_sD, gA_sN, gA_sz, gL_sI, gL_sA, gL_sL, gL_sJ, gL_sR, gL_sQ, gL_sD, gL_sN, gL_sz, gJ_sI, gJ_sA, gJ_sL, gJ_sJ, gJ_sR, gJ_sQ, gJ_sD, gJ_sN, gJ_sz, gR_sI, gR_sA, gR_sL, gR_sJ, gR_sR, gR_sQ, gR_sD, gR_sN, gR_sz, gQ_sI, gQ_sA, gQ_sL, gQ_sJ, gQ_sR, gQ_sQ, gQ_sD, gQ_sN, gQ_sz, gD_sI, gD_sA, gD_sL, gD_sJ, gD_sR, gD_sQ, gD_sD, gD_sN, gD_sz, sz_sI, sz_sA, sz_sL, sz_sJ, sz_sR, sz_sQ, sz_sD, sz_sN, sz_sz, reduceIte, Nat.reduceEqDiff]
    have b6 : ∀ j, gA s6 6 j = if j = m then v else gA s 6 j := fun j => by rw [f6.ga 6 (by decide), ← hs5]; simp only [gI_sI, gI_sA, gI_sL, gI_sJ, gI_sR, gI_sQ, gI_sD, gI_sN, gI_sz, gA_sI, gA_sA, gA_sL, gA_sJ, gA_sR, gA_sQ, gA_sD, gA_sN, gA_sz, gL_sI, gL_sA, gL_sL, gL_sJ, gL_sR, gL_sQ, gL_sD, gL_sN, gL_sz, gJ_sI, gJ_sA, gJ_sL, gJ_sJ, gJ_sR, gJ_sQ, gJ_sD, gJ_sN, gJ_sz, gR_sI, gR_sA, gR_sL, gR_sJ, gR_sR, gR_sQ, gR_sD, gR_sN, gR_sz, gQ_sI, gQ_sA, gQ_sL, gQ_sJ, gQ_sR, gQ_sQ, gQ_sD, gQ_sN, gQ_sz, gD_sI, gD_sA, gD_sL, gD_sJ, gD_sR, gD_sQ, gD_sD, gD_sN, gD_sz, sz_sI, sz_sA, sz_sL, sz_sJ, sz_sR, sz_sQ, sz_sD, sz_sN, sz_sz, reduceIte, Nat.reduceEqDiff]
    have b7 : ∀ j, gA s6 7 j = if j = m then io hr else gA s 7 j := fun j => by rw [f6.ga 7 (by decide), ← hs5]; simp only [gI_sI, gI_sA, gI_sL, gI_sJ, gI_sR, gI_sQ, gI_sD, gI_sN, gI_sz, gA_sI, gA_sA, gA_sL, gA_sJ, gA_sR, gA_sQ, gA_sD, gA_sN, gA_sz, gL_sI, gL_sA, gL_sL, gL_sJ, gL_sR, gL_sQ, gL_sD, gL_sN, gL_sz, gJ_sI, gJ_sA, gJ_sL, gJ_sJ, gJ_sR, gJ_sQ, gJ_sD, gJ_sN, gJ_sz, gR_sI, gR_sA, gR_sL, gR_sJ, gR_sR, gR_sQ, gR_sD, gR_sN, gR_sz, gQ_sI, gQ_sA, gQ_sL, gQ_sJ, gQ_sR, gQ_sQ, gQ_sD, gQ_sN, gQ_sz, gD_sI, gD_sA, gD_sL, gD_sJ, gD_sR, gD_sQ, gD_sD, gD_sN, gD_sz, sz_sI, sz_sA, sz_sL, sz_sJ, sz_sR, sz_sQ, sz_sD, sz_sN, sz_sz, reduceIte, Nat.reduceEqDiff]
    have b8 : ∀ j, gA s6 8 j = if j = m then io h else gA s 8 j := fun j => by rw [f6.ga 8 (by decide), ← hs5]; simp only [gI_sI, gI_sA, gI_sL, gI_sJ, gI_sR, gI_sQ, gI_sD, gI_sN, gI_sz, gA_sI, gA_sA, gA_sL, gA_sJ, gA_sR, gA_sQ, gA_sD, gA_sN, gA_sz, gL_sI, gL_sA, gL_sL, gL_sJ, gL_sR, gL_sQ, gL_sD, gL_sN, gL_sz, gJ_sI, gJ_sA, gJ_sL, gJ_sJ, gJ_sR, gJ_sQ, gJ_sD, gJ_sN, gJ_sz, gR_sI, gR_sA, gR_sL, gR_sJ, gR_sR, gR_sQ, gR_sD, gR_sN, gR_sz, gQ_sI, gQ_sA, gQ_sL, gQ_sJ, gQ_sR, gQ_sQ, gQ_sD, gQ_sN, gQ_sz, gD_sI, gD_sA, gD_sL, gD_sJ, gD_sR, gD_sQ, gD_sD, gD_sN, gD_sz, sz_sI, sz_sA, sz_sL, sz_sJ, sz_sR, sz_sQ, sz_sD, sz_sN, sz_sz, reduceIte, Nat.reduceEqDiff]
    simp only [gA_sI]
    rw [a9]
    have old : ∀ k, k < m → gA s 9 k = io (rI (L k)) ∧ gA s6 4 (rI (L k)) = io (rP (L k)) ∧ gA s6 5 (rI (L k)) = io (rL (L k)) ∧ gA s6 6 (rI (L k)) = rV (L k) ∧ gA s6 7 (rI (L k)) = io (rH (L k)) ∧ gA s6 8 (rI (L k)) = io (rT (L k)) := fun k hk => by
      have hne : ¬ rI (L k) = m := by have := (G.2.1 k hk).2.2.2.2.2.2; omega
      rw [b4, b5, b6, b7, b8, if_neg hne, if_neg hne, if_neg hne, if_neg hne, if_neg hne]
      exact C.2.1 k hk
    rcases lins_at (L := L) (r := (p, l, v, hr, h, m)) hk hx with ⟨c1, c2, c3⟩ | ⟨c1, c3⟩ | ⟨c1, c2, c3⟩
    · rw [c3, if_neg (by omega), if_neg (by omega)]
      exact old k c2
    · rw [c3, if_pos c1, b4, b5, b6, b7, b8]
      exact ⟨rfl, if_pos rfl, if_pos rfl, if_pos rfl, if_pos rfl, if_pos rfl⟩
    · rw [c3, if_neg (by omega), if_pos (by omega)]
      exact old (k - 1) c2
  · simp only [gA_sI]
    rw [a10]
    have hc := cnt_lins (fun r => decide (rH r < y)) L x (p, l, v, hr, h, m) (m - x)
    rw [show x + (m - x) = m by omega] at hc
    rw [hc, C.2.2 y hy]
    show _ = io (_ + if decide (hr < y) then 1 else 0)
    by_cases hyh : hr < y
    · rw [if_pos (by omega), if_pos (decide_eq_true hyh), io_add]
    · rw [if_neg (by omega), if_neg (by simpa using hyh)]; rfl
theorem sm_J : ∀ (k x : Nat) (s : St), gJ (sm s x k) = gJ s := by
  intro k
  induction k with
  | zero => intro x s; rfl
  | succ k ih => intro x s; exact (ih x _).trans rfl
theorem M_logAdd {F h hr m : Nat} (hF : 5000 ≤ F) {s : St} {L : Nat → LR} {p l : Nat} {v : Int32} (hh : h ≤ 1000) (hhr : hr ≤ h) (hm : m < 100) (M : LGm s L m) (G : LGg L m h) :
    ∃ s', f_M_log_b90 F F s (io p) (io l) v (io hr) (gI s 2527) = some (io m, s') ∧ LGm s' (lins L (lplace L m hr) (p, l, v, hr, h, m)) (m + 1) ∧ Fr [2527] [52, 53, 54, 55] s s' ∧ gJ s' = gJ s := by
  have hx := lplace_le L m hr
  have hpi : ∀ k, k < m → (rH (L k) ≤ hr ↔ k < lplace L m hr) := fun k hk => lplace_iff G hk
  generalize hX : lplace L m hr = x at hx hpi
  have hl := sm_loop (F := F) (x := x) (hr := hr) (by omega) (l1 := io p) (l2 := io l) (l3 := v) (m - x) F s (by omega) (by omega) (fun j hj => ⟨rH (L j), by have := G.2.1 j (by omega); omega, (M.2 j (by omega)).2.2.2, hpi j (by omega)⟩)
  rw [show x + (m - x) = m by omega] at hl
  have f := sm_fr (m - x) x s
  have e2 : gI (sm s x (m - x)) 2527 = io m := by rw [f.gi 2527 (by decide)]; exact M.1
  refine ⟨sI (sA (sA (sA (sA (sm s x (m - x)) 52 x (io p)) 53 x (io l)) 54 x v) 55 x (io hr)) 2527 (io (m + 1)), ?_, ⟨rfl, fun k hk => ?_⟩, (((((f.wide (by decide) (by decide)).A (by decide)).A (by decide)).A (by decide)).A (by decide)).I (by decide), sm_J _ _ _⟩
  · rw [M.1, hl]
    simp (disch := omega) only [f_M_log_b179, Option.bind_some, Nat.reduceEqDiff, Nat.add_zero, Nat.zero_add, Nat.reduceLT, Nat.reduceLeDiff, Nat.reduceAdd, Nat.reduceSub, Nat.reduceMul, Nat.reduceDiv, Nat.lt_irrefl, Nat.not_lt_zero, Nat.zero_le, Nat.one_ne_zero, Nat.succ_ne_zero,  lt_def, i32_lit, reduceIte, P_isIn_eq, M_isIn_eq, M_goes_eq, or_false, false_or, or_true, true_or, and_true, true_and, and_false, false_and, not_true, not_false_eq_true, eq_self, if_true, if_false, not_or, not_and, Nat.not_lt, Nat.not_le, ix_io, gI_sI, gI_sA, gI_sL, gI_sJ, gI_sR, gI_sQ, gI_sD, gI_sN, gI_sz, gA_sI, gA_sA, gA_sL, gA_sJ, gA_sR, gA_sQ, gA_sD, gA_sN, gA_sz, gL_sI, gL_sA, gL_sL, gL_sJ, gL_sR, gL_sQ, gL_sD, gL_sN, gL_sz, gJ_sI, gJ_sA, gJ_sL, gJ_sJ, gJ_sR, gJ_sQ, gJ_sD, gJ_sN, gJ_sz, gR_sI, gR_sA, gR_sL, gR_sJ, gR_sR, gR_sQ, gR_sD, gR_sN, gR_sz, gQ_sI, gQ_sA, gQ_sL, gQ_sJ, gQ_sR, gQ_sQ, gQ_sD, gQ_sN, gQ_sz, gD_sI, gD_sA, gD_sL, gD_sJ, gD_sR, gD_sQ, gD_sD, gD_sN, gD_sz, sz_sI, sz_sA, sz_sL, sz_sJ, sz_sR, sz_sQ, sz_sD, sz_sN, sz_sz, e2, io_add, io_sub, Nat.add_sub_cancel]
  · have b : ∀ a j, (a = 52 ∨ a = 53 ∨ a = 54 ∨ a = 55) → gA (sm s x (m - x)) a j = if x < j ∧ j ≤ m then gA s a (j - 1) else gA s a j := fun a j ha => by rw [sm_at _ _ _ _ _ ha, show x + (m - x) = m by omega]
    simp only [gI_sI, gI_sA, gI_sL, gI_sJ, gI_sR, gI_sQ, gI_sD, gI_sN, gI_sz, gA_sI, gA_sA, gA_sL, gA_sJ, gA_sR, gA_sQ, gA_sD, gA_sN, gA_sz, gL_sI, gL_sA, gL_sL, gL_sJ, gL_sR, gL_sQ, gL_sD, gL_sN, gL_sz, gJ_sI, gJ_sA, gJ_sL, gJ_sJ, gJ_sR, gJ_sQ, gJ_sD, gJ_sN, gJ_sz, gR_sI, gR_sA, gR_sL, gR_sJ, gR_sR, gR_sQ, gR_sD, gR_sN, gR_sz, gQ_sI, gQ_sA, gQ_sL, gQ_sJ, gQ_sR, gQ_sQ, gQ_sD, gQ_sN, gQ_sz, gD_sI, gD_sA, gD_sL, gD_sJ, gD_sR, gD_sQ, gD_sD, gD_sN, gD_sz, sz_sI, sz_sA, sz_sL, sz_sJ, sz_sR, sz_sQ, sz_sD, sz_sN, sz_sz, reduceIte, Nat.reduceEqDiff]
    rw [b 52 k (by omega), b 53 k (by omega), b 54 k (by omega), b 55 k (by omega)]
    rcases lins_at (L := L) (r := (p, l, v, hr, h, m)) hk hx with ⟨c1, c2, c3⟩ | ⟨c1, c3⟩ | ⟨c1, c2, c3⟩
    · have n1 : ¬ k = x := by omega
      have n2 : ¬ (x < k ∧ k ≤ m) := by omega
      rw [c3]
      simp only [n1, n2, reduceIte]
      exact M.2 k c2
    · rw [c3]
      simp only [c1, reduceIte]
      exact ⟨rfl, rfl, rfl, rfl⟩
    · have n1 : ¬ k = x := by omega
      have n2 : x < k ∧ k ≤ m := by omega
      rw [c3]
      simp only [n1, n2, reduceIte, and_self]
      exact M.2 (k - 1) c2
theorem in_or {x a b : Int32} : (¬ (x < a ∨ b < x) ∧ a ≤ x ∧ x ≤ b) ∨ (x < a ∨ b < x) := by
  by_cases h : x < a ∨ b < x
  · exact Or.inr h
  · refine Or.inl ⟨h, ?_⟩
    rw [not_or, i32_nlt, i32_nlt] at h
    exact h
theorem op_log {F : Nat} (hF : 5000 ≤ F) {s : St} {h m : Nat} {L : Nat → LR} (H : HH s h) (C : LGc s L m) (M : LGm s L m) (G : LGg L m h) (a1 a2 a3 a4 : Int32) : ∃ k s1, f_L_log F s a1 a2 a3 a4 = some (k, s1) ∧ ∀ N, sz s1 ≤ N → ∃ b s2, f_M_log F (sz' s1 N) a1 a2 a3 a4 = some (b, s2) ∧ gI s2 2551 = k ∧ (k = 0 → gJ s2 70 0 = b.toInt64) ∧
    (∃ L' m', LGc s2 L' m' ∧ LGm s2 L' m' ∧ LGg L' m' h ∧ ((L' = L ∧ m' = m) ∨ ∃ x r, x ≤ m ∧ L' = lins L x r ∧ m' = m + 1 ∧ rT r = h)) ∧ Fr [200, 2527, 2551] [4, 5, 6, 7, 8, 9, 10, 52, 53, 54, 55] s s2 := by
  have hz := szlt s
  have hh := H.1
  have e1 := H.2.1
  have e2 := H.2.2
  have bad : ∀ (t : Int32) N, sz s ≤ N → (∃ L' m', LGc (sI (sz' s N) 2551 t) L' m' ∧ LGm (sI (sz' s N) 2551 t) L' m' ∧ LGg L' m' h ∧ ((L' = L ∧ m' = m) ∨ ∃ x r, x ≤ m ∧ L' = lins L x r ∧ m' = m + 1 ∧ rT r = h)) ∧ Fr [200, 2527, 2551] [4, 5, 6, 7, 8, 9, 10, 52, 53, 54, 55] s (sI (sz' s N) 2551 t) := fun t N hN =>
    ⟨⟨L, m, C.fr (eI := [2551]) (eA := []) ((Fr.rf.Z hN).I (by decide)), M.fr (eI := [2551]) (eA := []) ((Fr.rf.Z hN).I (by decide)), G, Or.inl ⟨rfl, rfl⟩⟩, (Fr.rf.Z hN).I (by decide)⟩
  have mb : ∀ N, f_M_log_b50 F (sz' s N) a1 a2 a3 a4 (io 0) = some (io 0, sI (sz' s N) 2551 (io 1)) := fun N => by
    simp (disch := omega) only [f_M_log_b50, Option.bind_some, Nat.reduceEqDiff, Nat.add_zero, Nat.zero_add, Nat.reduceLT, Nat.reduceLeDiff, Nat.reduceAdd, Nat.reduceSub, Nat.reduceMul, Nat.reduceDiv, Nat.lt_irrefl, Nat.not_lt_zero, Nat.zero_le, Nat.one_ne_zero, Nat.succ_ne_zero,  lt_def, i32_lit, reduceIte, P_isIn_eq, M_isIn_eq, M_goes_eq, or_false, false_or, or_true, true_or, and_true, true_and, and_false, false_and, not_true, not_false_eq_true, eq_self, if_true, if_false, not_or, not_and, Nat.not_lt, Nat.not_le, io_eq]
  rcases in_or (x := a1) (a := io 0) (b := io 7) with ⟨n1, r1, r1'⟩ | n1
  · rcases in_or (x := a2) (a := io 0) (b := io 5) with ⟨n2, r2, r2'⟩ | n2
    · rcases in_or (x := a3) (a := -io 1000) (b := io 1000) with ⟨n3, r3, r3'⟩ | n3
      · rcases in_or (x := a4) (a := io 0) (b := io h) with ⟨n4, r4, r4'⟩ | n4
        · obtain ⟨p, rfl, hp⟩ := io_in (by omega) r1 r1'
          obtain ⟨l, rfl, hl⟩ := io_in (by omega) r2 r2'
          obtain ⟨hr, rfl, hhr⟩ := io_in (by omega) r4 r4'
          have hv1 : -1000 ≤ a3.toInt := by
            rw [Int32.le_iff_toInt_le] at r3
            have : (-io 1000).toInt = -1000 := by decide
            omega
          have hv2 : a3.toInt ≤ 1000 := by
            rw [Int32.le_iff_toInt_le, io_toInt (by omega)] at r3'
            exact r3'
          have hm100 := G.1
          have m1 : ¬ 7 < p := by omega
          have m2 : ¬ 5 < l := by omega
          have m4 : ¬ h < hr := by omega
          by_cases hm : m < 100
          · obtain ⟨s', q1, q2, q3⟩ := P_logAdd (F := F) hF (p := p) (l := l) (v := a3) hh hhr hm C G
            refine ⟨io 0, sJ s' 70 0 (io m).toInt64, ?_, fun N hN => ?_⟩
            · simp (disch := omega) only [f_L_log, f_P_log, Option.bind_some, Nat.reduceEqDiff, Nat.add_zero, Nat.zero_add, Nat.reduceLT, Nat.reduceLeDiff, Nat.reduceAdd, Nat.reduceSub, Nat.reduceMul, Nat.reduceDiv, Nat.lt_irrefl, Nat.not_lt_zero, Nat.zero_le, Nat.one_ne_zero, Nat.succ_ne_zero,  lt_def, i32_lit, reduceIte, P_isIn_eq, M_isIn_eq, M_goes_eq, or_false, false_or, or_true, true_or, and_true, true_and, and_false, false_and, not_true, not_false_eq_true, eq_self, if_true, if_false, not_or, not_and, Nat.not_lt, Nat.not_le, e1, hz, m1, m2, n3, m4, io_eq, io_lt, C.1, io_lt, hm, q1]
            · have f0 : Fr [200] [4, 5, 6, 7, 8, 9, 10] s (sz' (sJ s' 70 0 (io m).toInt64) N) := (q3.J).Z hN
              have f1 : Fr [200, 2551] [4, 5, 6, 7, 8, 9, 10] s (sI (sz' (sJ s' 70 0 (io m).toInt64) N) 2551 (io 0)) := (((q3.wide (by decide) (by decide)).J).Z hN).I (by decide)
              obtain ⟨s2, t1, t2, t3, t4⟩ := M_logAdd (F := F) hF (p := p) (l := l) (v := a3) hh hhr hm (M.fr f1) G
              have e2' : gI (sz' (sJ s' 70 0 (io m).toInt64) N) 2526 = io h := (H.fr f0).2.2
              have e7' : gI (sz' (sJ s' 70 0 (io m).toInt64) N) 2527 = io m := (M.fr f0).1
              refine ⟨io m, s2, ?_, ?_, fun _ => ?_, ⟨_, _, ?_, t2, G.ins hm (r := (p, l, a3, hr, h, m)) ⟨hp, hl, hv1, hv2, hhr, Nat.le_refl h, Nat.lt_succ_self m⟩, Or.inr ⟨_, _, lplace_le L m hr, rfl, rfl, rfl⟩⟩, (f1.wide (by decide) (by decide)).trans (t3.wide (by decide) (by decide))⟩
              · have c5 : ¬ m = 100 := by omega
                simp (disch := omega) only [f_M_log, f_M_log_b50, Option.bind_some, Nat.reduceEqDiff, Nat.add_zero, Nat.zero_add, Nat.reduceLT, Nat.reduceLeDiff, Nat.reduceAdd, Nat.reduceSub, Nat.reduceMul, Nat.reduceDiv, Nat.lt_irrefl, Nat.not_lt_zero, Nat.zero_le, Nat.one_ne_zero, Nat.succ_ne_zero,  lt_def, i32_lit, reduceIte, P_isIn_eq, M_isIn_eq, M_goes_eq, or_false, false_or, or_true, true_or, and_true, true_and, and_false, false_and, not_true, not_false_eq_true, eq_self, if_true, if_false, not_or, not_and, Nat.not_lt, Nat.not_le, e2', m1, m2, n3, m4, io_eq, io_lt, e7', c5]
                exact t1
              · rw [t3.gi 2551 (by decide)]; rfl
              · rw [t4]; rfl
              · exact q2.fr (eI := [2551, 2527]) (eA := [52, 53, 54, 55]) (((Fr.rf.J.Z hN).I (by decide)).trans (t3.wide (by decide) (by decide)))
          · have hm' : m = 100 := by omega
            subst hm'
            refine ⟨io 2, s, ?_, fun N hN => ⟨io 0, sI (sz' s N) 2551 (io 2), ?_, rfl, fun h => absurd h (by decide), bad _ N hN⟩⟩
            · simp (disch := omega) only [f_L_log, f_P_log, Option.bind_some, Nat.reduceEqDiff, Nat.add_zero, Nat.zero_add, Nat.reduceLT, Nat.reduceLeDiff, Nat.reduceAdd, Nat.reduceSub, Nat.reduceMul, Nat.reduceDiv, Nat.lt_irrefl, Nat.not_lt_zero, Nat.zero_le, Nat.one_ne_zero, Nat.succ_ne_zero,  lt_def, i32_lit, reduceIte, P_isIn_eq, M_isIn_eq, M_goes_eq, or_false, false_or, or_true, true_or, and_true, true_and, and_false, false_and, not_true, not_false_eq_true, eq_self, if_true, if_false, not_or, not_and, Nat.not_lt, Nat.not_le, e1, hz, m1, m2, n3, m4, io_eq, io_lt, C.1, io_lt, hz]
            · have e2' : gI (sz' s N) 2526 = io h := e2
              have e7' : gI (sz' s N) 2527 = io 100 := M.1
              simp (disch := omega) only [f_M_log, f_M_log_b50, Option.bind_some, Nat.reduceEqDiff, Nat.add_zero, Nat.zero_add, Nat.reduceLT, Nat.reduceLeDiff, Nat.reduceAdd, Nat.reduceSub, Nat.reduceMul, Nat.reduceDiv, Nat.lt_irrefl, Nat.not_lt_zero, Nat.zero_le, Nat.one_ne_zero, Nat.succ_ne_zero,  lt_def, i32_lit, reduceIte, P_isIn_eq, M_isIn_eq, M_goes_eq, or_false, false_or, or_true, true_or, and_true, true_and, and_false, false_and, not_true, not_false_eq_true, eq_self, if_true, if_false, not_or, not_and, Nat.not_lt, Nat.not_le, e2', m1, m2, n3, m4, io_eq, io_lt, e7']
        · refine ⟨io 1, s, ?_, fun N hN => ⟨io 0, sI (sz' s N) 2551 (io 1), ?_, rfl, fun h => absurd h (by decide), bad _ N hN⟩⟩
          · simp (disch := omega) only [f_L_log, f_P_log, Option.bind_some, Nat.reduceEqDiff, Nat.add_zero, Nat.zero_add, Nat.reduceLT, Nat.reduceLeDiff, Nat.reduceAdd, Nat.reduceSub, Nat.reduceMul, Nat.reduceDiv, Nat.lt_irrefl, Nat.not_lt_zero, Nat.zero_le, Nat.one_ne_zero, Nat.succ_ne_zero,  lt_def, i32_lit, reduceIte, P_isIn_eq, M_isIn_eq, M_goes_eq, or_false, false_or, or_true, true_or, and_true, true_and, and_false, false_and, not_true, not_false_eq_true, eq_self, if_true, if_false, not_or, not_and, Nat.not_lt, Nat.not_le, e1, n1, n2, n3, n4, io_eq, hz]
          · have e2' : gI (sz' s N) 2526 = io h := e2
            simp (disch := omega) only [f_M_log, Option.bind_some, Nat.reduceEqDiff, Nat.add_zero, Nat.zero_add, Nat.reduceLT, Nat.reduceLeDiff, Nat.reduceAdd, Nat.reduceSub, Nat.reduceMul, Nat.reduceDiv, Nat.lt_irrefl, Nat.not_lt_zero, Nat.zero_le, Nat.one_ne_zero, Nat.succ_ne_zero,  lt_def, i32_lit, reduceIte, P_isIn_eq, M_isIn_eq, M_goes_eq, or_false, false_or, or_true, true_or, and_true, true_and, and_false, false_and, not_true, not_false_eq_true, eq_self, if_true, if_false, not_or, not_and, Nat.not_lt, Nat.not_le, e2', n1, n2, n3, n4, io_eq, mb N]
      · refine ⟨io 1, s, ?_, fun N hN => ⟨io 0, sI (sz' s N) 2551 (io 1), ?_, rfl, fun h => absurd h (by decide), bad _ N hN⟩⟩
        · simp (disch := omega) only [f_L_log, f_P_log, Option.bind_some, Nat.reduceEqDiff, Nat.add_zero, Nat.zero_add, Nat.reduceLT, Nat.reduceLeDiff, Nat.reduceAdd, Nat.reduceSub, Nat.reduceMul, Nat.reduceDiv, Nat.lt_irrefl, Nat.not_lt_zero, Nat.zero_le, Nat.one_ne_zero, Nat.succ_ne_zero,  lt_def, i32_lit, reduceIte, P_isIn_eq, M_isIn_eq, M_goes_eq, or_false, false_or, or_true, true_or, and_true, true_and, and_false, false_and, not_true, not_false_eq_true, eq_self, if_true, if_false, not_or, not_and, Nat.not_lt, Nat.not_le, n1, n2, n3, io_eq, hz]
        · simp (disch := omega) only [f_M_log, Option.bind_some, Nat.reduceEqDiff, Nat.add_zero, Nat.zero_add, Nat.reduceLT, Nat.reduceLeDiff, Nat.reduceAdd, Nat.reduceSub, Nat.reduceMul, Nat.reduceDiv, Nat.lt_irrefl, Nat.not_lt_zero, Nat.zero_le, Nat.one_ne_zero, Nat.succ_ne_zero,  lt_def, i32_lit, reduceIte, P_isIn_eq, M_isIn_eq, M_goes_eq, or_false, false_or, or_true, true_or, and_true, true_and, and_false, false_and, not_true, not_false_eq_true, eq_self, if_true, if_false, not_or, not_and, Nat.not_lt, Nat.not_le, n1, n2, n3, io_eq, mb N]
    · refine ⟨io 1, s, ?_, fun N hN => ⟨io 0, sI (sz' s N) 2551 (io 1), ?_, rfl, fun h => absurd h (by decide), bad _ N hN⟩⟩
      · simp (disch := omega) only [f_L_log, f_P_log, Option.bind_some, Nat.reduceEqDiff, Nat.add_zero, Nat.zero_add, Nat.reduceLT, Nat.reduceLeDiff, Nat.reduceAdd, Nat.reduceSub, Nat.reduceMul, Nat.reduceDiv, Nat.lt_irrefl, Nat.not_lt_zero, Nat.zero_le, Nat.one_ne_zero, Nat.succ_ne_zero,  lt_def, i32_lit, reduceIte, P_isIn_eq, M_isIn_eq, M_goes_eq, or_false, false_or, or_true, true_or, and_true, true_and, and_false, false_and, not_true, not_false_eq_true, eq_self, if_true, if_false, not_or, not_and, Nat.not_lt, Nat.not_le, n1, n2, io_eq, hz]
      · simp (disch := omega) only [f_M_log, Option.bind_some, Nat.reduceEqDiff, Nat.add_zero, Nat.zero_add, Nat.reduceLT, Nat.reduceLeDiff, Nat.reduceAdd, Nat.reduceSub, Nat.reduceMul, Nat.reduceDiv, Nat.lt_irrefl, Nat.not_lt_zero, Nat.zero_le, Nat.one_ne_zero, Nat.succ_ne_zero,  lt_def, i32_lit, reduceIte, P_isIn_eq, M_isIn_eq, M_goes_eq, or_false, false_or, or_true, true_or, and_true, true_and, and_false, false_and, not_true, not_false_eq_true, eq_self, if_true, if_false, not_or, not_and, Nat.not_lt, Nat.not_le, n1, n2, io_eq, mb N]
  · refine ⟨io 1, s, ?_, fun N hN => ⟨io 0, sI (sz' s N) 2551 (io 1), ?_, rfl, fun h => absurd h (by decide), bad _ N hN⟩⟩
    · simp (disch := omega) only [f_L_log, f_P_log, Option.bind_some, Nat.reduceEqDiff, Nat.add_zero, Nat.zero_add, Nat.reduceLT, Nat.reduceLeDiff, Nat.reduceAdd, Nat.reduceSub, Nat.reduceMul, Nat.reduceDiv, Nat.lt_irrefl, Nat.not_lt_zero, Nat.zero_le, Nat.one_ne_zero, Nat.succ_ne_zero,  lt_def, i32_lit, reduceIte, P_isIn_eq, M_isIn_eq, M_goes_eq, or_false, false_or, or_true, true_or, and_true, true_and, and_false, false_and, not_true, not_false_eq_true, eq_self, if_true, if_false, not_or, not_and, Nat.not_lt, Nat.not_le, n1, io_eq, hz]
    · simp (disch := omega) only [f_M_log, Option.bind_some, Nat.reduceEqDiff, Nat.add_zero, Nat.zero_add, Nat.reduceLT, Nat.reduceLeDiff, Nat.reduceAdd, Nat.reduceSub, Nat.reduceMul, Nat.reduceDiv, Nat.lt_irrefl, Nat.not_lt_zero, Nat.zero_le, Nat.one_ne_zero, Nat.succ_ne_zero,  lt_def, i32_lit, reduceIte, P_isIn_eq, M_isIn_eq, M_goes_eq, or_false, false_or, or_true, true_or, and_true, true_and, and_false, false_and, not_true, not_false_eq_true, eq_self, if_true, if_false, not_or, not_and, Nat.not_lt, Nat.not_le, n1, io_eq, mb N]
