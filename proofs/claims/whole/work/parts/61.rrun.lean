/-! the class runs a question's codes -/
theorem chr1_pos (x : CT) : 1 ≤ (chr1 x).length := by
  unfold chr1
  by_cases h : cmc x.1 = true
  · rw [if_pos h, List.length_append]; show 1 ≤ _ + 1; omega
  · rw [if_neg h]; exact Nat.le_refl _
theorem chrow_pos {c : List CT} (h : okC c) : 1 ≤ (chrow c).length := by
  cases c with
  | nil => have h9 : some 0 = some (0 + 1) := h.2 0; cases h9
  | cons x c =>
    have e : chrow (x :: c) = chr1 x ++ chrow c := List.flatMap_cons
    rw [e, List.length_append]
    have := chr1_pos x
    omega
theorem RS.fr {s s' : St} {st : List Int64} (H : RS s st) (h1 : gI s' 2178 = gI s 2178) (h2 : gJ s' 38 = gJ s 38) : RS s' st := ⟨h1.trans H.1, by rw [h2]; exact H.2⟩
def FRn (s s' : St) : Prop := Fr [2178, 2241, 2243, 2244, 2245] [36, 37] s s' ∧ ∀ k, k ≠ 38 → gJ s' k = gJ s k
theorem FRn.rf {s : St} : FRn s s := ⟨Fr.rf, fun _ _ => rfl⟩
theorem FRn.trans {s s1 s2 : St} (h : FRn s s1) (h2 : FRn s1 s2) : FRn s s2 := ⟨h.1.trans h2.1, fun k hk => (h2.2 k hk).trans (h.2 k hk)⟩
theorem FH.n {s s' : St} (h : FH s s') : FRn s s' := ⟨h.1.wide (by decide) (by decide), h.2.2⟩
theorem CRa.frn {s s' : St} {p : Nat} {rw : List Nat} (h : CRa s p rw) (f : FRn s s') : CRa s' p rw := ⟨h.1, fun i hi => by rw [f.1.ga 27 (by decide)]; exact h.2 i hi⟩
theorem TLr.fh {s s' : St} {vs : List Int32} (T : TLr s vs) (f : FH s s') : TLr s' vs := by
  unfold TLr at T ⊢
  rw [f.1.gi 2241 (by decide), f.1.ga 36 (by decide), f.1.ga 37 (by decide)]
  exact T
theorem TSr.fh {s s' : St} {vs : List Int32} (T : TSr s vs) (f : FH s s') : TSr s' vs := by
  refine ⟨T.1.fh f, ?_⟩
  rw [f.2.1, f.1.gi 2243 (by decide), f.1.gi 2244 (by decide), f.1.gi 2245 (by decide)]
  exact T.2
theorem gathR {F h m k f p e : Nat} (hF : 5000 ≤ F) {s0 : St} {L : Nat → LR} {pk : List Nat} {ch : Option (List CT)} {base : List Int64} (W : LW s0 L m h pk) (hk : agc k = true) (hf : (k = 110 ∧ f = 0) ∨ (k ≠ 110 ∧ fdc f = true)) (hch : ∀ c, ch = some c → okC c) (hsz : base.length + wtO ch ≤ 40) (Cp : gA s0 27 p = io k) (hp : p < 80) (C : CRa s0 (p + 3) (chO ch)) (he : p + 3 + (chO ch).length = e) :
    ∀ j n i s, i + j = pk.length → j < n → FRn s0 s → RS s base → TSr s ((((ev L pk).take i).filter (chB ch)).map (fld f)) → ∃ s', f_Runner_gather_b46 F n s (io p) (io (p + 3)) (io f) (io e) (io i) = some (io e, s') ∧ FRn s0 s' ∧ RS s' (aggv (ev L pk) k f ch :: base) ∧ ∃ vs, TLr s' vs := by
  have hkl : k < 2147483648 := by unfold agc at hk; have := of_decide_eq_true hk; omega
  have hpl := W.2.2.2.2.1
  have hbl : base.length ≤ 39 := by
    have : 1 ≤ wtO ch := by unfold wtO; split <;> omega
    omega
  have he80 : e ≤ 80 := by have := C.1; omega
  intro j
  induction j with
  | zero =>
    intro n i s hi hn hfr R T
    obtain ⟨n, rfl⟩ : ∃ n', n = n' + 1 := ⟨n - 1, by omega⟩
    have hi' : i = pk.length := by omega
    subst hi'
    have W' := W.fr hfr.1
    have e1 := W'.2.2.2.1.1
    rw [List.take_of_length_le (by unfold ev; rw [List.length_map]; exact Nat.le_refl _)] at T
    have hres := result_eqr (F := F) (k := k) hF hkl T
    have Cp' : gA s 27 p = io k := by rw [hfr.1.ga 27 (by decide)]; exact Cp
    obtain ⟨s', a1, a2, a3, a4, a5, a6⟩ := pushR (F := F) (x := aggv (ev L pk) k f ch) R hbl
    refine ⟨s', ?_, hfr.trans a2.n, a3, _, T.1.fh a2⟩
    have hres' : f_Tally_resultr F s (io k) = some (aggv (ev L pk) k f ch, s) := hres
    simp (disch := omega) only [f_Runner_gather_b46, Option.bind_some, Nat.reduceEqDiff, Nat.add_zero, Nat.zero_add, Nat.reduceLT, Nat.reduceLeDiff, Nat.reduceAdd, Nat.reduceSub, Nat.reduceMul, Nat.reduceDiv, Nat.lt_irrefl, Nat.not_lt_zero, Nat.zero_le, Nat.one_ne_zero, Nat.succ_ne_zero,  lt_def, i32_lit, reduceIte, P_isIn_eq, M_isIn_eq, M_goes_eq, or_false, false_or, or_true, true_or, and_true, true_and, and_false, false_and, not_true, not_false_eq_true, eq_self, if_true, if_false, not_or, not_and, Nat.not_lt, Nat.not_le, e1, io_le, Nat.le_refl, ix_io, Cp', hres', a1]
  | succ j ih =>
    intro n i s hi hn hfr R T
    obtain ⟨n, rfl⟩ : ∃ n', n = n' + 1 := ⟨n - 1, by omega⟩
    have W' := W.fr hfr.1
    have e1 := W'.2.2.2.1.1
    have hlt : i < pk.length := by omega
    have n1 : ¬ pk.length ≤ i := by omega
    have n2 : ¬ 100 ≤ i := by omega
    have e11 := W'.2.2.2.1.2 i hlt
    have hkm : pk[i] < m := W.2.2.2.2.2 _ (List.getElem_mem hlt)
    have hfl := fil_len (L := L) (pk := pk) (i := i) (p := chB ch) (f := fld f)
    -- the value comes in
    have key : ∀ s, FRn s0 s → RS s base → TSr s ((((ev L pk).take i).filter (chB ch)).map (fld f)) → chB ch (rec1 (L pk[i])) = true → ∃ s', f_Runner_gather_b96 F (f_Runner_gather_b46 F n) s (io p) (io (p + 3)) (io f) (io e) (io i) (io (rI (L pk[i]))) = some (io e, s') ∧ FRn s0 s' ∧ RS s' (aggv (ev L pk) k f ch :: base) ∧ ∃ vs, TLr s' vs := by
      intro s hfr R T hc
      have W' := W.fr hfr.1
      obtain ⟨s1, a1, a2, a3, a4⟩ := add_eqr (F := F) T (fld_ok (f := f) W.2.1 hkm) (by omega)
      have hf1 : FRn s0 s1 := hfr.trans ⟨a3.wide (by decide) (by decide), fun _ _ => by rw [a4]⟩
      obtain ⟨s2, b1, b2, b3⟩ := ih n (i + 1) s1 (by omega) (by omega) hf1 (R.fr (a3.gi 2178 (by decide)) (by rw [a4])) (by rw [ev_snoc hlt, if_pos hc]; exact a2)
      refine ⟨s2, ?_, b2, b3⟩
      rcases hf with ⟨x1, x2⟩ | ⟨x1, x2⟩
      · have e0 : fld f (rec1 (L pk[i])) = io 0 := by rw [x2]; rfl
        rw [e0] at a1
        subst x2
        simp (disch := omega) only [f_Runner_gather_b96, Option.bind_some, Nat.reduceEqDiff, Nat.add_zero, Nat.zero_add, Nat.reduceLT, Nat.reduceLeDiff, Nat.reduceAdd, Nat.reduceSub, Nat.reduceMul, Nat.reduceDiv, Nat.lt_irrefl, Nat.not_lt_zero, Nat.zero_le, Nat.one_ne_zero, Nat.succ_ne_zero,  lt_def, i32_lit, reduceIte, P_isIn_eq, M_isIn_eq, M_goes_eq, or_false, false_or, or_true, true_or, and_true, true_and, and_false, false_and, not_true, not_false_eq_true, eq_self, if_true, if_false, not_or, not_and, Nat.not_lt, Nat.not_le, a1, io_add]
        exact b1
      · have hf' : f = 112 ∨ f = 108 ∨ f = 118 ∨ f = 104 := of_decide_eq_true x2
        have hfo := fieldOf_eq (F := F) (f := f) W'.1 W'.2.1 W'.2.2.1 hkm (by omega)
        have n0 : ¬ f = 0 := by omega
        simp (disch := omega) only [f_Runner_gather_b96, Option.bind_some, Nat.reduceEqDiff, Nat.add_zero, Nat.zero_add, Nat.reduceLT, Nat.reduceLeDiff, Nat.reduceAdd, Nat.reduceSub, Nat.reduceMul, Nat.reduceDiv, Nat.lt_irrefl, Nat.not_lt_zero, Nat.zero_le, Nat.one_ne_zero, Nat.succ_ne_zero,  lt_def, i32_lit, reduceIte, P_isIn_eq, M_isIn_eq, M_goes_eq, or_false, false_or, or_true, true_or, and_true, true_and, and_false, false_and, not_true, not_false_eq_true, eq_self, if_true, if_false, not_or, not_and, Nat.not_lt, Nat.not_le, io_eq, n0, hfo, a1, io_add]
        exact b1
    cases ch with
    | none =>
      have hep : p + 3 = e := he
      obtain ⟨s', c1, c2⟩ := key s hfr R T rfl
      refine ⟨s', ?_, c2⟩
      simp (disch := omega) only [f_Runner_gather_b46, Option.bind_some, Nat.reduceEqDiff, Nat.add_zero, Nat.zero_add, Nat.reduceLT, Nat.reduceLeDiff, Nat.reduceAdd, Nat.reduceSub, Nat.reduceMul, Nat.reduceDiv, Nat.lt_irrefl, Nat.not_lt_zero, Nat.zero_le, Nat.one_ne_zero, Nat.succ_ne_zero,  lt_def, i32_lit, reduceIte, P_isIn_eq, M_isIn_eq, M_goes_eq, or_false, false_or, or_true, true_or, and_true, true_and, and_false, false_and, not_true, not_false_eq_true, eq_self, if_true, if_false, not_or, not_and, Nat.not_lt, Nat.not_le, e1, io_le, n1, n2, ix_io, e11, io_eq, hep]
      rw [hep] at c1
      exact c1
    | some cc =>
      have hok := hch cc rfl
      have hpos := chrow_pos hok
      have he' : p + 3 + (chrow cc).length = e := he
      have hne : ¬ p + 3 = e := by omega
      have hsz' : base.length + (cc.length + 3) ≤ 40 := hsz
      have C' : CRa s (p + 3) (chrow cc) := C.frn hfr
      have hlen80 : (chrow cc).length ≤ 80 := by omega
      obtain ⟨s1, y1, y2, y3⟩ := holdsR (F := F) (base := base) W'.1 W'.2.1 W'.2.2.1 hkm he80 cc F (p + 3) (p + 3) s [] C' he' hok.1 (hok.2 0) (by show base.length + 0 + cc.length ≤ 38; omega) (Nat.le_refl _) (by omega) FH.rf R
      have y1' : f_Runner_holds F s (io (p + 3)) (io e) (io (rI (L pk[i]))) = some (if chB (some cc) (rec1 (L pk[i])) = true then io 1 else io 0, s1) := y1
      have T1 : TSr s1 ((((ev L pk).take i).filter (chB (some cc))).map (fld f)) := T.fh y2
      by_cases hb : chB (some cc) (rec1 (L pk[i])) = true
      · rw [if_pos hb] at y1'
        obtain ⟨s', c1, c2⟩ := key s1 (hfr.trans y2.n) y3 T1 hb
        refine ⟨s', ?_, c2⟩
        simp (disch := omega) only [f_Runner_gather_b46, Option.bind_some, Nat.reduceEqDiff, Nat.add_zero, Nat.zero_add, Nat.reduceLT, Nat.reduceLeDiff, Nat.reduceAdd, Nat.reduceSub, Nat.reduceMul, Nat.reduceDiv, Nat.lt_irrefl, Nat.not_lt_zero, Nat.zero_le, Nat.one_ne_zero, Nat.succ_ne_zero,  lt_def, i32_lit, reduceIte, P_isIn_eq, M_isIn_eq, M_goes_eq, or_false, false_or, or_true, true_or, and_true, true_and, and_false, false_and, not_true, not_false_eq_true, eq_self, if_true, if_false, not_or, not_and, Nat.not_lt, Nat.not_le, e1, io_le, n1, n2, ix_io, e11, io_eq, hne, y1']
        exact c1
      · rw [if_neg hb] at y1'
        obtain ⟨s2, b1, b2, b3⟩ := ih n (i + 1) s1 (by omega) (by omega) (hfr.trans y2.n) y3 (by rw [ev_snoc hlt, if_neg hb, List.append_nil]; exact T1)
        refine ⟨s2, ?_, b2, b3⟩
        simp (disch := omega) only [f_Runner_gather_b46, Option.bind_some, Nat.reduceEqDiff, Nat.add_zero, Nat.zero_add, Nat.reduceLT, Nat.reduceLeDiff, Nat.reduceAdd, Nat.reduceSub, Nat.reduceMul, Nat.reduceDiv, Nat.lt_irrefl, Nat.not_lt_zero, Nat.zero_le, Nat.one_ne_zero, Nat.succ_ne_zero,  lt_def, i32_lit, reduceIte, P_isIn_eq, M_isIn_eq, M_goes_eq, or_false, false_or, or_true, true_or, and_true, true_and, and_false, false_and, not_true, not_false_eq_true, eq_self, if_true, if_false, not_or, not_and, Nat.not_lt, Nat.not_le, e1, io_le, n1, n2, ix_io, e11, io_eq, hne, y1', io_add]
        exact b1
section RRN
variable {F p : Nat} {s : St}
theorem run_it {m size cnt p' k : Nat} {s' : St} (hs : size ≤ 80) (hp : p < size) (hc : cnt ≤ p) (hk : gA s 27 p = io k) (hkl : k < 1000) (hna : agc k = false) (h : f_Runner_step F s (io p) (-io 1) = some (io p', s')) : f_Runner_run_b11 F (m + 1) s (io size) (io p) (io cnt) = f_Runner_run_b11 F m s' (io size) (io p') (io (cnt + 1)) := by
  have n0 : ¬ p < 0 := by omega
  have n1 : ¬ size ≤ cnt := by omega
  have n2 : ¬ size ≤ p := by omega
  have n3 : ¬ 80 ≤ p := by omega
  have hag := isAgg_eq (F := F) (s := s) hkl
  rw [if_neg (by rw [hna]; decide)] at hag
  simp (disch := omega) only [f_Runner_run_b11, Option.bind_some, Nat.reduceEqDiff, Nat.add_zero, Nat.zero_add, Nat.reduceLT, Nat.reduceLeDiff, Nat.reduceAdd, Nat.reduceSub, Nat.reduceMul, Nat.reduceDiv, Nat.lt_irrefl, Nat.not_lt_zero, Nat.zero_le, Nat.one_ne_zero, Nat.succ_ne_zero,  lt_def, i32_lit, reduceIte, P_isIn_eq, M_isIn_eq, M_goes_eq, or_false, false_or, or_true, true_or, and_true, true_and, and_false, false_and, not_true, not_false_eq_true, eq_self, if_true, if_false, not_or, not_and, Nat.not_lt, Nat.not_le, io_le, io_lt, n0, n1, n2, n3, ix_io, hk, hag, h, io_add]
theorem run_ag {m size cnt p' k : Nat} {s' : St} (hs : size ≤ 80) (hp : p < size) (hc : cnt ≤ p) (hk : gA s 27 p = io k) (hkl : k < 1000) (hna : agc k = true) (h : f_Runner_gather F s (io p) = some (io p', s')) : f_Runner_run_b11 F (m + 1) s (io size) (io p) (io cnt) = f_Runner_run_b11 F m s' (io size) (io p') (io (cnt + 1)) := by
  have n0 : ¬ p < 0 := by omega
  have n1 : ¬ size ≤ cnt := by omega
  have n2 : ¬ size ≤ p := by omega
  have n3 : ¬ 80 ≤ p := by omega
  have hag := isAgg_eq (F := F) (s := s) hkl
  rw [if_pos hna] at hag
  simp (disch := omega) only [f_Runner_run_b11, Option.bind_some, Nat.reduceEqDiff, Nat.add_zero, Nat.zero_add, Nat.reduceLT, Nat.reduceLeDiff, Nat.reduceAdd, Nat.reduceSub, Nat.reduceMul, Nat.reduceDiv, Nat.lt_irrefl, Nat.not_lt_zero, Nat.zero_le, Nat.one_ne_zero, Nat.succ_ne_zero,  lt_def, i32_lit, reduceIte, P_isIn_eq, M_isIn_eq, M_goes_eq, or_false, false_or, or_true, true_or, and_true, true_and, and_false, false_and, not_true, not_false_eq_true, eq_self, if_true, if_false, not_or, not_and, Nat.not_lt, Nat.not_le, io_le, io_lt, n0, n1, n2, n3, ix_io, hk, hag, io_eq, h, io_add]
end RRN
theorem runR {F h m : Nat} (hF : 5000 ≤ F) {s0 : St} {L : Nat → LR} {pk : List Nat} (W : LW s0 L m h pk) {size : Nat} (hs : size ≤ 80) : ∀ (c : List QT) (fu p cnt : Nat) (s : St) (st : List Int64), CRa s0 p (qrow c) → p + (qrow c).length = size → (∀ x ∈ c, tvQ x) → depQ c st.length = some 1 → st.length + szQ c ≤ 40 → cnt ≤ p → (qrow c).length < fu → FRn s0 s → RS s st → (∃ vs, TLr s vs) →
    ∃ s', f_Runner_run_b11 F fu s (io size) (io p) (io cnt) = some ((runQ (ev L pk) c st).headD 0, s') ∧ FRn s0 s' ∧ ∃ vs, TLr s' vs := by
  intro c
  induction c with
  | nil =>
    intro fu p cnt s st C hpe hv hd hsz hcnt hfu f R TT
    obtain ⟨fu, rfl⟩ : ∃ f', fu = f' + 1 := ⟨fu - 1, by omega⟩
    have hpe' : p = size := hpe
    have hd' : some st.length = some 1 := hd
    obtain ⟨x, rfl⟩ : ∃ x, st = [x] := by
      cases st with
      | nil => cases hd'
      | cons b cs => cases cs with
        | nil => exact ⟨b, rfl⟩
        | cons x y =>
          have h9 := Option.some.inj hd'
          have h9' : y.length + 1 + 1 = 1 := h9
          omega
    obtain ⟨a1, a2, a3⟩ := pullR (F := F) (s := s) (x := x) (st := []) R (Nat.zero_le _)
    obtain ⟨vs, T⟩ := TT
    refine ⟨sI s 2178 (io 0), ?_, f.trans a2.n, vs, T.fh a2⟩
    have a1' : f_Runner_pull F s = some (x, sI s 2178 (io 0)) := a1
    have hep : size ≤ p := by omega
    have n0 : ¬ p < 0 := by omega
    by_cases hc : size ≤ cnt
    · simp (disch := omega) only [f_Runner_run_b11, Option.bind_some, Nat.reduceEqDiff, Nat.add_zero, Nat.zero_add, Nat.reduceLT, Nat.reduceLeDiff, Nat.reduceAdd, Nat.reduceSub, Nat.reduceMul, Nat.reduceDiv, Nat.lt_irrefl, Nat.not_lt_zero, Nat.zero_le, Nat.one_ne_zero, Nat.succ_ne_zero,  lt_def, i32_lit, reduceIte, P_isIn_eq, M_isIn_eq, M_goes_eq, or_false, false_or, or_true, true_or, and_true, true_and, and_false, false_and, not_true, not_false_eq_true, eq_self, if_true, if_false, not_or, not_and, Nat.not_lt, Nat.not_le, io_le, hc, a1']
      rfl
    · simp (disch := omega) only [f_Runner_run_b11, Option.bind_some, Nat.reduceEqDiff, Nat.add_zero, Nat.zero_add, Nat.reduceLT, Nat.reduceLeDiff, Nat.reduceAdd, Nat.reduceSub, Nat.reduceMul, Nat.reduceDiv, Nat.lt_irrefl, Nat.not_lt_zero, Nat.zero_le, Nat.one_ne_zero, Nat.succ_ne_zero,  lt_def, i32_lit, reduceIte, P_isIn_eq, M_isIn_eq, M_goes_eq, or_false, false_or, or_true, true_or, and_true, true_and, and_false, false_and, not_true, not_false_eq_true, eq_self, if_true, if_false, not_or, not_and, Nat.not_lt, Nat.not_le, io_le, io_lt, n0, hc, hep, a1']
      rfl
  | cons x c ih =>
    intro fu p cnt s st C hpe hv hd hsz hcnt hfu f R TT
    have hrw : qrow (x :: c) = qr1 x ++ qrow c := List.flatMap_cons
    rw [hrw] at C hpe hfu
    rw [List.length_append] at hpe hfu
    have hsz' : st.length + (wtO x.2.2 + szQ c) ≤ 40 := hsz
    have hw1 : 1 ≤ wtO x.2.2 := by unfold wtO; split <;> omega
    have Ca := C.left
    have Cb := C.right
    have hd' : (dq x st.length).bind (depQ c) = some 1 := hd
    obtain ⟨vs, T⟩ := TT
    have go : ∀ (w fu' cnt' : Nat) (s' : St) (st' : List Int64), (qr1 x).length = w → stQ (ev L pk) x st = st' → st'.length ≤ st.length + 1 → dq x st.length = some st'.length → FRn s0 s' → RS s' st' → (∃ vs, TLr s' vs) → cnt' ≤ p + w → (qrow c).length < fu' → f_Runner_run_b11 F fu s (io size) (io p) (io cnt) = f_Runner_run_b11 F fu' s' (io size) (io (p + w)) (io cnt') →
        ∃ s', f_Runner_run_b11 F fu s (io size) (io p) (io cnt) = some ((runQ (ev L pk) (x :: c) st).headD 0, s') ∧ FRn s0 s' ∧ ∃ vs, TLr s' vs := by
      intro w fu' cnt' s' st' h1 h2 h3 h4 h5 h6 h6' h7 h8 h9
      rw [h9]
      rw [h4, Option.bind_some] at hd'
      have := ih fu' (p + w) cnt' s' st' (by rw [← h1]; exact Cb) (by omega) (fun y hy => hv y (List.mem_cons_of_mem _ hy)) hd' (by omega) h7 h8 h5 h6 h6'
      have e9 : runQ (ev L pk) (x :: c) st = runQ (ev L pk) c st' := by rw [← h2]; rfl
      rw [e9]
      exact this
    rcases hv x List.mem_cons_self with ⟨v1, v2, v3⟩ | v1 | ⟨v1, v2⟩ | ⟨v1, v2, v3⟩
    · obtain ⟨k, v, ch⟩ := x
      have v1' : k = 35 := v1
      subst v1'
      have hq : qr1 (35, v, ch) = [35, v] := by unfold qr1; rw [if_pos rfl]
      rw [hq] at Ca hpe hfu
      have Cs := Ca.frn f
      have hl2 : [35, v].length = 2 := rfl
      rw [hl2] at hpe hfu
      obtain ⟨s1, a1, a2, a3⟩ := step_num (F := F) (lg := -io 1) R (by omega) Cs
      obtain ⟨fu, rfl⟩ : ∃ f', fu = f' + 1 := ⟨fu - 1, by omega⟩
      refine go 2 fu (cnt + 1) s1 ((io v).toInt64 :: st) (by rw [hq]; rfl) (by unfold stQ; rw [if_pos rfl]) (Nat.le_refl _) (by unfold dq; rw [if_pos (Or.inl rfl)]; rfl) (f.trans a2.n) a3 ⟨vs, T.fh a2⟩ (by omega) (by omega) ?_
      exact run_it hs (by omega) (by omega) Cs.hd.1 (by omega) rfl a1
    · subst v1
      have hq : qr1 (126, 0, none) = [126] := rfl
      rw [hq] at Ca hpe hfu
      have Cs := Ca.frn f
      have hl2 : [126].length = 1 := rfl
      rw [hl2] at hpe hfu
      have h1 : 1 ≤ st.length := by
        rcases Nat.lt_or_ge st.length 1 with h9 | h9
        · have : dq (126, 0, none) st.length = none := by unfold dq; rw [if_neg (by decide), if_pos rfl, if_neg (by omega)]
          rw [this] at hd'; cases hd'
        · exact h9
      obtain ⟨a, st, rfl⟩ : ∃ a r, st = a :: r := by
        cases st with
        | nil => exact absurd h1 (by decide)
        | cons a r => exact ⟨a, r, rfl⟩
      have hsz2 : st.length + 1 + (wtO none + szQ c) ≤ 40 := hsz'
      obtain ⟨s1, a1, a2, a3⟩ := step_neg (F := F) (lg := -io 1) R (by omega) Cs
      obtain ⟨fu, rfl⟩ : ∃ f', fu = f' + 1 := ⟨fu - 1, by omega⟩
      refine go 1 fu (cnt + 1) s1 (-a :: st) rfl rfl (by show st.length + 1 ≤ st.length + 1 + 1; omega) ?_ (f.trans a2.n) a3 ⟨vs, T.fh a2⟩ (by omega) (by omega) ?_
      · unfold dq; rw [if_neg (by decide), if_pos rfl, if_pos (by show 1 ≤ st.length + 1; omega)]; rfl
      · exact run_it hs (by omega) (by omega) Cs.hd.1 (by omega) rfl a1
    · obtain ⟨sg, r3⟩ := x
      have v1' : qop sg := v1
      have v2' : r3 = (0, none) := v2
      subst v2'
      have nag : ¬ agc sg = true := by unfold agc; rw [decide_eq_true_eq]; unfold qop at v1'; omega
      have n35 : ¬ sg = 35 := by unfold qop at v1'; omega
      have n126 : ¬ sg = 126 := by unfold qop at v1'; omega
      have hlt : sg < 1000 := by unfold qop at v1'; omega
      have hq : qr1 (sg, 0, none) = [sg] := by unfold qr1; rw [if_neg n35, if_neg nag]
      rw [hq] at Ca hpe hfu
      have Cs := Ca.frn f
      have hl2 : [sg].length = 1 := rfl
      rw [hl2] at hpe hfu
      have hdn : ∀ e, dq (sg, 0, none) e = if 2 ≤ e then some (e - 1) else none := fun e => by unfold dq; rw [if_neg (fun h => h.elim n35 nag), if_neg n126]
      have h2 : 2 ≤ st.length := by
        rcases Nat.lt_or_ge st.length 2 with h9 | h9
        · rw [hdn, if_neg (by omega)] at hd'; cases hd'
        · exact h9
      obtain ⟨b, a, st, rfl⟩ : ∃ b a r, st = b :: a :: r := by
        cases st with
        | nil => exact absurd h2 (by decide)
        | cons b r =>
          cases r with
          | nil => have h9 : 2 ≤ 1 := h2; omega
          | cons a r => exact ⟨b, a, r, rfl⟩
      have hsz2 : st.length + 1 + 1 + (wtO none + szQ c) ≤ 40 := hsz'
      have hw0 : wtO none = 1 := rfl
      obtain ⟨s1, a1, a2, a3⟩ := step_bin (F := F) (lg := -io 1) R (by omega) Cs (Or.inl v1') (fun s => comb_Q v1')
      obtain ⟨fu, rfl⟩ : ∃ f', fu = f' + 1 := ⟨fu - 1, by omega⟩
      refine go 1 fu (cnt + 1) s1 (cmb sg a b :: st) (by rw [hq]; rfl) (by unfold stQ; rw [if_neg n35, if_neg nag, if_neg n126]) (by show st.length + 1 ≤ st.length + 1 + 1 + 1; omega) ?_ (f.trans a2.n) a3 ⟨vs, T.fh a2⟩ (by omega) (by omega) ?_
      · rw [hdn, if_pos (by show 2 ≤ st.length + 1 + 1; omega)]; rfl
      · exact run_it hs (by omega) (by omega) Cs.hd.1 hlt (by simpa using nag) a1
    · obtain ⟨k, fi, ch⟩ := x
      have v1' : agc k = true := v1
      have n35 : ¬ k = 35 := fun e => by rw [e] at v1'; exact absurd v1' (by decide)
      have hlt : k < 1000 := by unfold agc at v1'; have := of_decide_eq_true v1'; omega
      have hq : qr1 (k, fi, ch) = [k, fi, (chO ch).length] ++ chO ch := by unfold qr1; rw [if_neg n35, if_pos v1']
      rw [hq] at Ca hpe hfu
      have Cs := Ca.frn f
      have hl2 : ([k, fi, (chO ch).length] ++ chO ch).length = 3 + (chO ch).length := by rw [List.length_append]; rfl
      rw [hl2] at hpe hfu
      have Cs3 : CRa s (p + 3) (chO ch) := Cs.right
      have Cs0 : CRa s p (k :: fi :: (chO ch).length :: chO ch) := Cs
      have k1 := Cs0.hd.1
      have k2 := Cs0.tl.hd.1
      have k3 : gA s 27 (p + 2) = io (chO ch).length := Cs0.tl.tl.hd.1
      have hp3 : p + 3 ≤ 80 := by have := Cs3.1; omega
      have hsz2 : st.length + (wtO ch + szQ c) ≤ 40 := hsz'
      obtain ⟨s1, a1, a2, a3, a4⟩ := clear_eqr (F := F) hF T
      have f1 : FRn s s1 := ⟨a3.wide (by decide) (by decide), fun _ _ => by rw [a4]⟩
      obtain ⟨s2, b1, b2, b3, b4⟩ := gathR (F := F) (k := k) (f := fi) (p := p) (base := st) hF (W.fr (f.trans f1).1) v1' v2 (fun cc h => (v3 cc h).1) (by omega) (by rw [a3.ga 27 (by decide)]; exact k1) (by omega) (Cs3.frn f1) rfl pk.length F 0 s1 (by omega) (by have := W.2.2.2.2.1; omega) FRn.rf (R.fr (a3.gi 2178 (by decide)) (by rw [a4])) a2
      have hga : f_Runner_gather F s (io p) = some (io (p + (3 + (chO ch).length)), s2) := by
        have n0 : ¬ p < 0 := by omega
        have b1' : f_Runner_gather_b46 F F s1 (io p) (io (p + 3)) (io fi) (io (p + (3 + (chO ch).length))) (io 0) = some (io (p + (3 + (chO ch).length)), s2) := by
          rw [show p + (3 + (chO ch).length) = p + 3 + (chO ch).length by omega]; exact b1
        simp (disch := omega) only [f_Runner_gather, Option.bind_some, Nat.reduceEqDiff, Nat.add_zero, Nat.zero_add, Nat.reduceLT, Nat.reduceLeDiff, Nat.reduceAdd, Nat.reduceSub, Nat.reduceMul, Nat.reduceDiv, Nat.lt_irrefl, Nat.not_lt_zero, Nat.zero_le, Nat.one_ne_zero, Nat.succ_ne_zero,  lt_def, i32_lit, reduceIte, P_isIn_eq, M_isIn_eq, M_goes_eq, or_false, false_or, or_true, true_or, and_true, true_and, and_false, false_and, not_true, not_false_eq_true, eq_self, if_true, if_false, not_or, not_and, Nat.not_lt, Nat.not_le, io_lt, n0, io_add, io_le, hp3, ix_io, a1, k2, k3]
        rw [show p + 3 + (chO ch).length = p + (3 + (chO ch).length) by omega]
        exact b1'
      obtain ⟨fu, rfl⟩ : ∃ f', fu = f' + 1 := ⟨fu - 1, by omega⟩
      refine go (3 + (chO ch).length) fu (cnt + 1) s2 (aggv (ev L pk) k fi ch :: st) (by rw [hq]; exact hl2) (by unfold stQ; rw [if_neg n35, if_pos v1']) (Nat.le_refl _) (by unfold dq; rw [if_pos (Or.inr v1')]; rfl) ((f.trans f1).trans b2) b3 b4 (by omega) (by omega) ?_
      exact run_ag hs (by omega) (by omega) k1 hlt v1' hga
theorem coderun_eq {F h m n : Nat} (hF : 5000 ≤ F) {t : Nat → Nat} (T : TXT t n) {L : Nat → LR} {pk : List Nat} {s : St} {c : List QT} (hq : ques t n = some c) (C : CR s (qrow c)) (W : LW s L m h pk) (TT : ∃ vs, TLr s vs) : ∃ s', f_Runner_run F s (gI s 1665) = some (valQ (ev L pk) c, s') ∧ FRn s s' ∧ ∃ vs, TLr s' vs := by
  have hn := T.1
  obtain ⟨q1, q2, q3, q4, q5⟩ := ques_ok T hq
  have hw := ques_wt T hq
  obtain ⟨vs, T0⟩ := TT
  have f0 : FRn s (sI s 2178 (io 0)) := ⟨Fr.rf.I (by decide), fun _ _ => rfl⟩
  obtain ⟨s', a1, a2, a3⟩ := runR (F := F) hF W C.1 c F 0 0 (sI s 2178 (io 0)) [] ⟨by rw [Nat.zero_add]; exact C.1, fun i hi => by rw [Nat.zero_add]; exact C.2.2 i hi⟩ (Nat.zero_add _) q1.1 (q1.2 0) (by show 0 + szQ c ≤ 40; omega) (Nat.le_refl _) (by have := C.1; omega) f0 ⟨rfl, trivial⟩ ⟨vs, T0⟩
  refine ⟨s', ?_, a2, a3⟩
  rw [C.2.1]
  simp (disch := omega) only [f_Runner_run, Option.bind_some, Nat.reduceEqDiff, Nat.add_zero, Nat.zero_add, Nat.reduceLT, Nat.reduceLeDiff, Nat.reduceAdd, Nat.reduceSub, Nat.reduceMul, Nat.reduceDiv, Nat.lt_irrefl, Nat.not_lt_zero, Nat.zero_le, Nat.one_ne_zero, Nat.succ_ne_zero,  lt_def, i32_lit, reduceIte, P_isIn_eq, M_isIn_eq, M_goes_eq, or_false, false_or, or_true, true_or, and_true, true_and, and_false, false_and, not_true, not_false_eq_true, eq_self, if_true, if_false, not_or, not_and, Nat.not_lt, Nat.not_le]
  exact a1
