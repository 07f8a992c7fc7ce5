/-! areValues -/
section VS
variable {F Z : Nat} {s : St} {w : WD} {A : LA}
theorem rng_cnt (p : Nat → Bool) : ∀ m, ((List.range m).filter p).length = cnt p m := by
  intro m
  induction m with
  | zero => rfl
  | succ m ih =>
    rw [List.range_succ, List.filter_append, List.length_append, ih]
    show _ = cnt p m + (if p m then 1 else 0)
    by_cases h : p m = true
    · rw [List.filter_cons, if_pos h, if_pos h]; rfl
    · rw [List.filter_cons, if_neg h, if_neg h]; rfl
/-- how many logs the hours show -/
theorem wev_len (H : CV s w) {a b : Nat} : (wev w a b).length = cnt (fun k => decide (a ≤ rH (vL w k) ∧ rH (vL w k) ≤ b)) (vm w) := by
  have G : LGg (vL w) (vm w) (yh (vy w)) := H.2.1.2.2.2.2.2.2.2.2
  show ((pks (vL w) (vm w) a b (yh (vy w))).map _).length = _
  rw [List.length_map]
  unfold pks
  rw [rng_cnt]
  refine cnt_ext fun k hk => ?_
  have h := (G.2.1 k hk).2.2.2.2.2.1
  unfold inW
  simp only [decide_eq_decide]
  constructor
  · intro c; exact ⟨c.1, c.2.1⟩
  · intro c; exact ⟨c.1, c.2, h⟩
theorem wev_ok (H : CV s w) {a b : Nat} (f : Nat) (p : Rec → Bool) : (∀ v ∈ ((wev w a b).filter p).map (fld f), vok v) ∧ (((wev w a b).filter p).map (fld f)).length ≤ 100 := by
  have G : LGg (vL w) (vm w) (yh (vy w)) := H.2.1.2.2.2.2.2.2.2.2
  constructor
  · intro v hv
    obtain ⟨r, hr, rfl⟩ := List.mem_map.mp hv
    have hr2 := (List.mem_filter.mp hr).1
    obtain ⟨k, hk, rfl⟩ := List.mem_map.mp hr2
    exact fld_ok G (pks_mem k hk)
  · rw [List.length_map]
    have h1 := List.length_filter_le p (wev w a b)
    have h2 := wev_len H (a := a) (b := b)
    have h3 := cnt_le (fun k => decide (a ≤ rH (vL w k) ∧ rH (vL w k) ≤ b)) (vm w)
    have := G.1
    omega
theorem V269 {vs : List Int32} {cN : Int64} (hv : ∀ v ∈ vs, vok v) (hl : vs.length ≤ 100) (hN : cN = (io vs.length).toInt64) : f_L_areValues_b269 F Z s cN (vag 115 vs) (vag 109 vs) (vag 120 vs) (vag 100 vs) (vag 116 vs) 1 = some (1, s) := by
  have n1 : ¬ (1 : Int32) = 0 := by decide
  rw [f_L_areValues_b269]
  have hNi : cN.toInt = (vs.length : Int) := by rw [hN]; exact l_io (by omega)
  by_cases h0 : vs.length = 0
  · have hl : vs = [] := List.length_eq_zero_iff.mp h0
    subst hl
    obtain ⟨a1, a2, a3, a4, a5⟩ := agg_nil
    rw [if_pos (show cN = 0 from hN), if_neg n1, a1, a2, a3, a4, a5]
    rfl
  · obtain ⟨lo, hi, mo, sm, un, e1, e2, e3, e4, e5, b1, b2, b3, b4, b5, b6, b7, b8, b9, b10⟩ := agg_ok h0 hv hl
    have p1 : (vs.length : Int) * lo ≤ 100 * 1000 := by
      have : (vs.length : Int) * lo ≤ (vs.length : Int) * 1000 := Int.mul_le_mul_of_nonneg_left (by omega) (by omega)
      omega
    have p2 : -(100 * 1000) ≤ (vs.length : Int) * lo := by
      have : (vs.length : Int) * (-1000) ≤ (vs.length : Int) * lo := Int.mul_le_mul_of_nonneg_left (by omega) (by omega)
      omega
    have p3 : (vs.length : Int) * hi ≤ 100 * 1000 := by
      have : (vs.length : Int) * hi ≤ (vs.length : Int) * 1000 := Int.mul_le_mul_of_nonneg_left (by omega) (by omega)
      omega
    have p4 : -(100 * 1000) ≤ (vs.length : Int) * hi := by
      have : (vs.length : Int) * (-1000) ≤ (vs.length : Int) * hi := Int.mul_le_mul_of_nonneg_left (by omega) (by omega)
      omega
    have m1 : (cN * vag 109 vs).toInt = (vs.length : Int) * lo := by rw [l_mul (by rw [hNi, e1]; omega) (by rw [hNi, e1]; omega), hNi, e1]
    have m2 : (cN * vag 120 vs).toInt = (vs.length : Int) * hi := by rw [l_mul (by rw [hNi, e2]; omega) (by rw [hNi, e2]; omega), hNi, e2]
    have o1 : (1 : Int64).toInt = 1 := rfl
    have m3 : (vag 120 vs - vag 109 vs).toInt = hi - lo := by rw [l_sub (by rw [e1, e2]; omega) (by rw [e1, e2]; omega), e1, e2]
    have m4 : (vag 120 vs - vag 109 vs + 1).toInt = hi - lo + 1 := by rw [l_add (by rw [m3, o1]; omega) (by rw [m3, o1]; omega), m3, o1]
    rw [if_neg (fun h => h0 (by have : cN.toInt = (0 : Int64).toInt := by rw [h]
                                rw [hNi] at this
                                have z : (0 : Int64).toInt = 0 := rfl
                                omega)), if_neg n1]
    rw [if_neg (show ¬ vag 116 vs < vag 109 vs by rw [Int64.lt_iff_toInt_lt, e3, e1]; omega)]
    rw [if_neg (show ¬ vag 120 vs < vag 116 vs by rw [Int64.lt_iff_toInt_lt, e3, e2]; omega)]
    rw [if_neg (show ¬ vag 115 vs < cN * vag 109 vs by rw [Int64.lt_iff_toInt_lt, e4, m1]; omega)]
    rw [if_neg (show ¬ cN * vag 120 vs < vag 115 vs by rw [Int64.lt_iff_toInt_lt, e4, m2]; omega)]
    rw [if_neg (show ¬ vag 100 vs < 1 by rw [Int64.lt_iff_toInt_lt, e5, o1]; omega)]
    rw [if_neg (show ¬ cN < vag 100 vs by rw [Int64.lt_iff_toInt_lt, e5, hNi]; omega)]
    have z1 : (vag 100 vs = 1) = (un = 1) := by rw [← Int64.toInt_inj, e5, o1]; simp; omega
    have z2 : (vag 109 vs = vag 120 vs) = (lo = hi) := by rw [← Int64.toInt_inj, e1, e2]
    have z3 : ¬ vag 120 vs - vag 109 vs + 1 < vag 100 vs := by rw [Int64.lt_iff_toInt_lt, e5, m4]; omega
    simp only [z1, z2]
    have fin : ∀ t : Int32, f_L_areValues_b407 F Z s (vag 109 vs) (vag 120 vs) (vag 100 vs) t t = some (1, s) := fun t => by
      rw [f_L_areValues_b407, if_pos rfl, if_neg z3]
    by_cases hu : un = 1
    · rw [if_pos hu, if_pos (b9.mp hu)]; exact fin 1
    · rw [if_neg hu, if_neg (fun h => hu (b9.mpr h))]; exact fin 0
/-- the hours of the logs, as they were told -/
def GH (A : LA) (w : WD) : Prop := ∃ gi : Nat → Nat, (∀ i, i < vm w → A 40 i = io (gi i) ∧ gi i ≤ 1000) ∧ ∀ P : Nat → Bool, cnt (fun i => P (gi i)) (vm w) = cnt (fun k => P (rH (vL w k))) (vm w)
theorem V_values (hF : 5000 ≤ F) (H : CL s w A) {n : Nat} (hx : n < 100000000) (hm : vm w ≤ 60) (hA : A 39 2 = io (vm w)) (hG : GH A w) {a b : Nat} (hab : a ≤ b) (hb : b ≤ yh (vy w)) {fd : Nat} (hfd : fd < 4) (hZ : ct s + 20 ≤ Z) : RB (f_L_areValues_b44 F Z F s (io n) (io a) (io b) (io fd) 0 0) 1 s (ct s + 20) (wtl w (vtx 1 fd n 0)) A := by
  have hh := H.1.h.2
  obtain ⟨gi, hgi, hP⟩ := hG
  have loop : ∀ (j N k : Nat) (s : St), k + j = vm w → j < N → ct s + 20 ≤ Z → CL s w A → RB (f_L_areValues_b44 F Z N s (io n) (io a) (io b) (io fd) (io (cnt (fun i => decide (a ≤ gi i ∧ gi i ≤ b)) k)) (io k)) 1 s (ct s + 20) (wtl w (vtx 1 fd n 0)) A := by
    intro j
    induction j with
    | zero =>
      intro N k s hk hN hZ H
      obtain ⟨N, rfl⟩ : ∃ N', N = N' + 1 := ⟨N - 1, by omega⟩
      have hk' : k = vm w := by omega
      subst hk'
      obtain ⟨e, he⟩ : ∃ e, e = wev w a b := ⟨_, rfl⟩
      obtain ⟨p, hp⟩ : ∃ p, p = chB (chx n 1) := ⟨_, rfl⟩
      have hp2 : chB (chx n 2) = fun r => !p r := by funext r; rw [hp]; exact chB_not r n
      have hp0 : chB (chx n 0) = fun _ => true := rfl
      have hlen : e.length = cnt (fun i => decide (a ≤ gi i ∧ gi i ≤ b)) (vm w) := by
        rw [he, wev_len H.1]; exact (hP (fun h => decide (a ≤ h ∧ h ≤ b))).symm
      have hcl := cnt_le (fun i => decide (a ≤ gi i ∧ gi i ≤ b)) (vm w)
      rw [← hlen] at hcl ⊢
      have o5 := wev_ok H.1 (a := a) (b := b) (fch fd) p
      have o6 := wev_ok H.1 (a := a) (b := b) 0 p
      rw [← he] at o5 o6
      obtain ⟨vs, hvs⟩ : ∃ vs, vs = (e.filter p).map (fld (fch fd)) := ⟨_, rfl⟩
      rw [← hvs] at o5
      have hvl : vs.length = (e.filter p).length := by rw [hvs, List.length_map]
      -- the values
      have g1 : aggv e (kch 0) (if (0 : Nat) = 0 then 0 else fch 0) (chx n 1) = (io vs.length).toInt64 := by
        show (io ((e.filter (chB (chx n 1))).map (fld 0)).length).toInt64 = _
        rw [← hp, List.length_map, hvl]
      have g2 : aggv e (kch 0) (if (0 : Nat) = 0 then 0 else fch 0) (chx n 2) = (io (e.length - vs.length)).toInt64 := by
        show (io ((e.filter (chB (chx n 2))).map (fld 0)).length).toInt64 = _
        have := filt_len p e
        rw [hp2, List.length_map, show (e.filter (fun r => !p r)).length = e.length - vs.length by omega]
      have g0 : aggv e (kch 0) (if (0 : Nat) = 0 then 0 else fch 0) (chx n 0) = (io e.length).toInt64 := by
        show (io ((e.filter (chB (chx n 0))).map (fld 0)).length).toInt64 = _
        rw [hp0, List.length_map, List.filter_eq_self.mpr (fun _ _ => rfl)]
      have gk : ∀ k, k ≠ 0 → aggv e (kch k) (if k = 0 then 0 else fch fd) (chx n 1) = vag (kch k) vs := fun k hk => by
        rw [if_neg hk, hvs, hp]; rfl
      have gs2 : aggv e (kch 1) (if (1 : Nat) = 0 then 0 else fch fd) (chx n 2) = vsum ((e.filter (fun r => !p r)).map (fld (fch fd))) := by
        rw [← hp2]; rfl
      have gs0 : aggv e (kch 1) (if (1 : Nat) = 0 then 0 else fch fd) (chx n 0) = vsum (e.map (fld (fch fd))) := by
        show vsum ((e.filter (chB (chx n 0))).map (fld (fch fd))) = _
        rw [hp0, List.filter_eq_self.mpr (fun _ _ => rfl)]
      have hle : vs.length ≤ e.length := by have := filt_len p e; omega
      have q1 : ¬ (io vs.length).toInt64 < 0 := by
        rw [Int64.lt_iff_toInt_lt, l_io (by omega)]
        have z : (0 : Int64).toInt = 0 := rfl
        omega
      have q2 : (io vs.length).toInt64 + (io (e.length - vs.length)).toInt64 = (io e.length).toInt64 := by
        rw [← Int64.toInt_inj, l_add (by rw [l_io (by omega), l_io (by omega)]; omega) (by rw [l_io (by omega), l_io (by omega)]; omega), l_io (by omega), l_io (by omega), l_io (by omega)]
        omega
      have q3 := filt_sum p (fld (fch fd)) e
      have hsm : vag (kch 1) vs = vsum ((e.filter p).map (fld (fch fd))) := by rw [hvs]; rfl
      have V : ∀ {k f wy : Nat} {s1 : St} {l : List Nat}, k < 6 → f < 4 → wy < 3 → CL s1 (wtl w l) A → ct s1 + 2 ≤ Z → RB (f_L_value F Z s1 (io k) (io f) (io n) (io wy) (io a) (io b)) (aggv (wev w a b) (kch k) (if k = 0 then 0 else fch f) (chx n wy)) s1 (ct s1 + 2) (wtl w (vtx k f n wy)) A := fun {k f wy s1 l} hk hf hwy c1 hz => V_value (F := F) (Z := Z) (w := wtl w l) hF c1 hwy hx hk hf hab hb hz
      rw [f_L_areValues_b44]
      rw [show (ix 4 2 : Option Nat) = some 2 from rfl, Option.bind_some, H.2 39 (by decide), hA, if_pos (Int32.le_refl _)]
      have v1 : RB (f_L_value F Z s 0 0 (io n) 1 (io a) (io b)) (io vs.length).toInt64 s (ct s + 2) (wtl w (vtx 0 0 n 1)) A := by
        have := V_value (F := F) (Z := Z) hF H (show 1 < 3 by decide) hx (show 0 < 6 by decide) (show 0 < 4 by decide) hab hb (by omega)
        rw [← he, g1] at this; exact this
      refine RB.cal v1 (by omega) (fun s1 c1 d1 e1 => ?_)
      dsimp only
      have v2 : RB (f_L_value F Z s1 0 0 (io n) 2 (io a) (io b)) (io (e.length - vs.length)).toInt64 s1 (ct s1 + 2) (wtl w (vtx 0 0 n 2)) A := by
        have := V (show 0 < 6 by decide) (show 0 < 4 by decide) (show 2 < 3 by decide) c1 (by omega)
        rw [← he, g2] at this; exact this
      refine RB.cal v2 (by omega) (fun s2 c2 d2 e2 => ?_)
      dsimp only
      have v3 : RB (f_L_value F Z s2 1 (io fd) (io n) 1 (io a) (io b)) (vag (kch 1) vs) s2 (ct s2 + 2) (wtl w (vtx 1 fd n 1)) A := by
        have := V (show 1 < 6 by decide) hfd (show 1 < 3 by decide) c2 (by omega)
        rw [← he, gk 1 (by decide)] at this; exact this
      refine RB.cal v3 (by omega) (fun s3 c3 d3 e3 => ?_)
      dsimp only
      have v4 : RB (f_L_value F Z s3 1 (io fd) (io n) 2 (io a) (io b)) (vsum ((e.filter (fun r => !p r)).map (fld (fch fd)))) s3 (ct s3 + 2) (wtl w (vtx 1 fd n 2)) A := by
        have := V (show 1 < 6 by decide) hfd (show 2 < 3 by decide) c3 (by omega)
        rw [← he, gs2] at this; exact this
      refine RB.cal v4 (by omega) (fun s4 c4 d4 e4 => ?_)
      dsimp only
      have v5 : RB (f_L_value F Z s4 2 (io fd) (io n) 1 (io a) (io b)) (vag (kch 2) vs) s4 (ct s4 + 2) (wtl w (vtx 2 fd n 1)) A := by
        have := V (show 2 < 6 by decide) hfd (show 1 < 3 by decide) c4 (by omega)
        rw [← he, gk 2 (by decide)] at this; exact this
      refine RB.cal v5 (by omega) (fun s5 c5 d5 e5 => ?_)
      dsimp only
      have v6 : RB (f_L_value F Z s5 3 (io fd) (io n) 1 (io a) (io b)) (vag (kch 3) vs) s5 (ct s5 + 2) (wtl w (vtx 3 fd n 1)) A := by
        have := V (show 3 < 6 by decide) hfd (show 1 < 3 by decide) c5 (by omega)
        rw [← he, gk 3 (by decide)] at this; exact this
      refine RB.cal v6 (by omega) (fun s6 c6 d6 e6 => ?_)
      dsimp only
      have v7 : RB (f_L_value F Z s6 4 (io fd) (io n) 1 (io a) (io b)) (vag (kch 4) vs) s6 (ct s6 + 2) (wtl w (vtx 4 fd n 1)) A := by
        have := V (show 4 < 6 by decide) hfd (show 1 < 3 by decide) c6 (by omega)
        rw [← he, gk 4 (by decide)] at this; exact this
      refine RB.cal v7 (by omega) (fun s7 c7 d7 e7 => ?_)
      dsimp only
      have v8 : RB (f_L_value F Z s7 5 (io fd) (io n) 1 (io a) (io b)) (vag (kch 5) vs) s7 (ct s7 + 2) (wtl w (vtx 5 fd n 1)) A := by
        have := V (show 5 < 6 by decide) hfd (show 1 < 3 by decide) c7 (by omega)
        rw [← he, gk 5 (by decide)] at this; exact this
      refine RB.cal v8 (by omega) (fun s8 c8 d8 e8 => ?_)
      dsimp only
      rw [if_neg q1, if_pos q2]
      have v9 : RB (f_L_value F Z s8 0 0 (io n) 0 (io a) (io b)) (io e.length).toInt64 s8 (ct s8 + 2) (wtl w (vtx 0 0 n 0)) A := by
        have := V (show 0 < 6 by decide) (show 0 < 4 by decide) (show 0 < 3 by decide) c8 (by omega)
        rw [← he, g0] at this; exact this
      refine RB.cal v9 (by omega) (fun s9 c9 d9 e9 => ?_)
      dsimp only
      rw [if_pos rfl]
      have v10 : RB (f_L_value F Z s9 1 (io fd) (io n) 0 (io a) (io b)) (vsum (e.map (fld (fch fd)))) s9 (ct s9 + 2) (wtl w (vtx 1 fd n 0)) A := by
        have := V (show 1 < 6 by decide) hfd (show 0 < 3 by decide) c9 (by omega)
        rw [← he, gs0] at this; exact this
      refine RB.cal v10 (by omega) (fun s10 c10 d10 e10 => ?_)
      dsimp only
      rw [if_pos (show vag (kch 1) vs + _ = _ by rw [hsm]; exact q3)]
      have hfin := V269 (F := F) (Z := Z) (s := s10) (cN := (io vs.length).toInt64) o5.1 o5.2 rfl
      exact ⟨s10, hfin, c10, Nat.le_refl _, by omega⟩
    | succ j ih =>
      intro N k s hk hN hZ H
      obtain ⟨N, rfl⟩ : ∃ N', N = N' + 1 := ⟨N - 1, by omega⟩
      obtain ⟨g1, g2⟩ := hgi k (by omega)
      have hcl := cnt_le (fun i => decide (a ≤ gi i ∧ gi i ≤ b)) k
      have n1 : ¬ io (vm w) ≤ io k := by rw [io_le (by omega) (by omega)]; omega
      have ek : io k + 1 = io (k + 1) := io_add _ _
      have e0 : io (cnt (fun i => decide (a ≤ gi i ∧ gi i ≤ b)) k) + 0 = io (cnt (fun i => decide (a ≤ gi i ∧ gi i ≤ b)) k) := Int32.add_zero _
      have e1 : io (cnt (fun i => decide (a ≤ gi i ∧ gi i ≤ b)) k) + 1 = io (cnt (fun i => decide (a ≤ gi i ∧ gi i ≤ b)) k + 1) := io_add _ _
      have hs : cnt (fun i => decide (a ≤ gi i ∧ gi i ≤ b)) (k + 1) = cnt (fun i => decide (a ≤ gi i ∧ gi i ≤ b)) k + if a ≤ gi k ∧ gi k ≤ b then 1 else 0 := by
        show _ + _ = _
        by_cases h : a ≤ gi k ∧ gi k ≤ b <;> simp [h]
      have h3 := ih N (k + 1) s (by omega) (by omega) hZ H
      rw [hs] at h3
      rw [f_L_areValues_b44]
      rw [show (ix 4 2 : Option Nat) = some 2 from rfl, Option.bind_some, H.2 39 (by decide), hA, if_neg n1, ix_io (show k < 60 by omega) (by decide), Option.bind_some, H.2 40 (by decide), g1, ek, e0, e1]
      by_cases h1 : gi k < a
      · rw [if_neg (by omega), Nat.add_zero] at h3
        rw [if_pos (by rw [io_lt (by omega) (by omega)]; exact h1)]
        exact h3
      · rw [if_neg (by rw [io_lt (by omega) (by omega)]; exact h1), Option.bind_some, g1]
        by_cases h2 : b < gi k
        · rw [if_neg (by omega), Nat.add_zero] at h3
          rw [if_pos (by rw [io_lt (by omega) (by omega)]; exact h2)]
          exact h3
        · rw [if_pos (by omega)] at h3
          rw [if_neg (by rw [io_lt (by omega) (by omega)]; exact h2)]
          exact h3
  exact loop (vm w) F 0 s (by omega) (by omega) hZ H
theorem V_areValues (hF : 5000 ≤ F) (H : CL s w A) {n : Nat} (hx : n < 100000000) (hm : vm w ≤ 60) (hA : A 39 2 = io (vm w)) (hG : GH A w) (hZ : ct s + 20 ≤ Z) : RB (f_L_areValues F Z s (io n)) 1 s (ct s + 20) (wtl w (vtx 1 (n / 3 % 4) n 0)) A := by
  have hh := H.1.h.2
  obtain ⟨h, hhe⟩ : ∃ h, h = yh (vy w) := ⟨_, rfl⟩
  obtain ⟨a, ha⟩ : ∃ a, a = n % (h + 1) := ⟨_, rfl⟩
  have hal : a ≤ h := by have := Nat.mod_lt n (show h + 1 > 0 by omega); omega
  obtain ⟨r, hr⟩ : ∃ r, r = n / 11 % (h - a + 1) := ⟨_, rfl⟩
  have hrl : r ≤ h - a := by have := Nat.mod_lt (n / 11) (show h - a + 1 > 0 by omega); omega
  rw [← hhe] at hh
  have e1 : io h + 1 = io (h + 1) := io_add _ _
  have e2 : io n - io n / io (h + 1) * io (h + 1) = io a := by rw [ha]; exact md9 (h + 1) (by omega) (by omega)
  have e3 : io h - io a + 1 = io (h - a + 1) := by rw [io_sub hal]; exact io_add _ _
  have e4 : io n / 11 - io n / 11 / io (h - a + 1) * io (h - a + 1) = io r := by
    have q : io n / 11 = io (n / 11) := io_div (by omega) (b := 11) (by omega)
    rw [q, hr]; exact md9 (h - a + 1) (by omega) (by omega)
  have e5 : io h - io r = io (h - r) := io_sub (by omega)
  have e6 : io n / 3 - io n / 3 / 4 * 4 = io (n / 3 % 4) := by
    have q : io n / 3 = io (n / 3) := io_div (by omega) (b := 3) (by omega)
    rw [q]; exact md9 4 (by omega) (by omega)
  have z1 : ¬ io (h + 1) = 0 := by
    show ¬ io (h + 1) = io 0
    rw [io_eq (by omega) (by omega)]; omega
  have z2 : ¬ io (h - a + 1) = 0 := by
    show ¬ io (h - a + 1) = io 0
    rw [io_eq (by omega) (by omega)]; omega
  have wn := fun {s1 : St} (c : CL s1 w A) => (W_now (F := F) c.1 : f_P_now F s1 = some (io (yh (vy w)), s1))
  rw [← hhe] at wn
  rw [f_L_areValues]
  refine RB.pl (wn H) H (fun s2 c2 d2 => ?_)
  dsimp only
  rw [e1, if_neg z1, e2]
  refine RB.pl (wn c2) c2 (fun s3 c3 d3 => ?_)
  dsimp only
  refine RB.pl (wn c3) c3 (fun s4 c4 d4 => ?_)
  dsimp only
  rw [e3, if_neg z2, e4, e5, e6, lt_def]
  have := V_values (F := F) (Z := Z) hF c4 hx hm hA hG (a := a) (b := h - r) (by omega) (by omega) (fd := n / 3 % 4) (Nat.mod_lt _ (by decide)) (by omega)
  exact this.le (by omega)
end VS
