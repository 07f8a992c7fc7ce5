set_option maxRecDepth 20000 in
set_option maxHeartbeats 2000000 in
theorem law_loop {Γ : Ga} {D : DD} {B b L : Nat} {xs : Nat → Int32} (X : LX Γ D B b L xs) {F : Nat} {Inv : St → Prop} (hB : BB F Inv) {Q : State → Prop} (hend : ∀ σ k n j, k ≤ 601024 → n ≤ 7293034 → V Γ D B true 8 Q k n σ 1694 (L5 B b j) []) : ∀ (d j : Nat) (σ : St), L ≤ 5 * j + d → 5 * j ≤ L → Inv σ → V Γ D B true 8 Q (71 + 64 * j) (50000 + 768 * j) σ 23 (L5 B b j) [] := by
  have hL := X.2.2.2.2.2.2
  intro d
  induction d using Nat.strongRecOn with
  | ind d ih =>
  intro j σ hd hjL hI
  refine r_iload (pc := 23) X.1 dL_law_23 4 rfl ?_
  refine l_load0 (pc := 25) X dL_law_25 rfl ?_
  refine l_len (pc := 26) X dL_law_26 ?_
  refine r_iconst (v := 5) (pc := 27) X.1 dL_law_27 (by decide) ?_
  refine r_isub (pc := 28) X.1 dL_law_28 ?_
  have e1 : (Int32.ofNat L - 5).toInt = (L : Int) - 5 := by
    have h5 : (5 : Int32).toInt = 5 := by decide
    rw [Int32.toInt_sub, i32_ofNat (by omega), h5, Int.bmod_eq_of_le (by omega) (by omega)]
  have e2 : (Int32.ofNat (5 * j)).toInt = ((5 * j : Nat) : Int) := i32_ofNat (by omega)
  intro H locs ls cs ss hP hS hl hk hn
  refine lv_icmp_gt X.1.1 X.1.2.1 (tgt := 1694) dL_law_29 (by decide) (fun h => hend σ _ _ j (by omega) (by omega) H locs ls cs ss hP hS hl hk hn) (fun h => ?_)
  have hj5 : 5 * j + 5 ≤ L := by
    rw [Int32.lt_iff_toInt_lt, e1, e2] at h
    omega
  suffices hgo : V Γ D B true 8 Q (71 + 64 * j) (50000 + 768 * j) σ 32 (L5 B b j) [] from hgo H locs ls cs ss hP hS hl hk hn
  have hk1 : (71 + 64 * j) + 64 ≤ 601024 := by omega
  have hn1 : (50000 + 768 * j) + 768 ≤ 7293034 := by omega
  have kk : ∀ σ', Inv σ' → V Γ D B true 8 Q ((71 + 64 * j) + 64) ((50000 + 768 * j) + 768) σ' 1688 (L5 B b j) [] := by
    intro σ' hI'
    refine r_iinc (v := Int32.ofNat (5 * (j + 1))) (lv' := L5 B b (j + 1)) (pc := 1688) X.1 dL_law_1688 4 rfl (by
      have h5 : Int32.ofInt 5 = Int32.ofNat 5 := rfl
      rw [h5, ← Int32.ofNat_add]; rfl) (by decide) [1, 2, 3, 4, 0] rfl ?_
    refine r_goto (tgt := 23) (pc := 1691) X.1 dL_law_1691 (by decide) ?_
    have h := ih (d - 1) (by omega) (j + 1) σ' (by omega) (by omega) hI'
    exact V.mono (by omega) (by omega) h
  refine l_arg0 (pc := 32) (j := j) X (by omega) rfl rfl dL_law_32 dL_law_33 dL_law_35 ?_
  refine r_bipush (v := 31) (pc := 36) X.1 dL_law_36 (by decide) ?_
  refine r_iand (pc := 38) X.1 dL_law_38 ?_
  generalize xs (5 * j) &&& 31 = x
  by_cases e0 : x = 0
  · exact r_tableIn (tgt := 168) (pc := 39) X.1 dL_law_39 (by rw [e0] <;> decide) (by rw [e0] <;> decide) (by rw [e0] <;> rfl) (by decide) (lc_0 X hj5 hB.2.1 hI hk1 hn1 kk)
  by_cases e1 : x = 1
  · exact r_tableIn (tgt := 226) (pc := 39) X.1 dL_law_39 (by rw [e1] <;> decide) (by rw [e1] <;> decide) (by rw [e1] <;> rfl) (by decide) (lc_1 X hj5 hB.2.2.1 hI hk1 hn1 kk)
  by_cases e2 : x = 2
  · exact r_tableIn (tgt := 239) (pc := 39) X.1 dL_law_39 (by rw [e2] <;> decide) (by rw [e2] <;> decide) (by rw [e2] <;> rfl) (by decide) (lc_2 X hj5 hB.2.2.2.1 hI hk1 hn1 kk)
  by_cases e3 : x = 3
  · exact r_tableIn (tgt := 252) (pc := 39) X.1 dL_law_39 (by rw [e3] <;> decide) (by rw [e3] <;> decide) (by rw [e3] <;> rfl) (by decide) (lc_3 X hj5 hB.2.2.2.2.1 hI hk1 hn1 kk)
  by_cases e4 : x = 4
  · exact r_tableIn (tgt := 319) (pc := 39) X.1 dL_law_39 (by rw [e4] <;> decide) (by rw [e4] <;> decide) (by rw [e4] <;> rfl) (by decide) (lc_4 X hj5 hB.2.2.2.2.2.1 hI hk1 hn1 kk)
  by_cases e5 : x = 5
  · exact r_tableIn (tgt := 386) (pc := 39) X.1 dL_law_39 (by rw [e5] <;> decide) (by rw [e5] <;> decide) (by rw [e5] <;> rfl) (by decide) (lc_5 X hj5 hB.2.2.2.2.2.2.1 hI hk1 hn1 kk)
  by_cases e6 : x = 6
  · exact r_tableIn (tgt := 442) (pc := 39) X.1 dL_law_39 (by rw [e6] <;> decide) (by rw [e6] <;> decide) (by rw [e6] <;> rfl) (by decide) (lc_6 X hj5 hB.2.2.2.2.2.2.2.1 hI hk1 hn1 kk)
  by_cases e7 : x = 7
  · exact r_tableIn (tgt := 455) (pc := 39) X.1 dL_law_39 (by rw [e7] <;> decide) (by rw [e7] <;> decide) (by rw [e7] <;> rfl) (by decide) (lc_7 X hj5 hB.2.2.2.2.2.2.2.2.1 hI hk1 hn1 kk)
  by_cases e8 : x = 8
  · exact r_tableIn (tgt := 547) (pc := 39) X.1 dL_law_39 (by rw [e8] <;> decide) (by rw [e8] <;> decide) (by rw [e8] <;> rfl) (by decide) (lc_8 X hj5 hB.2.2.2.2.2.2.2.2.2.1 hI hk1 hn1 kk)
  by_cases e9 : x = 9
  · exact r_tableIn (tgt := 591) (pc := 39) X.1 dL_law_39 (by rw [e9] <;> decide) (by rw [e9] <;> decide) (by rw [e9] <;> rfl) (by decide) (lc_9 X hj5 hB.2.2.2.2.2.2.2.2.2.2.1 hI hk1 hn1 kk)
  by_cases e10 : x = 10
  · exact r_tableIn (tgt := 666) (pc := 39) X.1 dL_law_39 (by rw [e10] <;> decide) (by rw [e10] <;> decide) (by rw [e10] <;> rfl) (by decide) (lc_10 X hj5 hB.2.2.2.2.2.2.2.2.2.2.2.1 hI hk1 hn1 kk)
  by_cases e11 : x = 11
  · exact r_tableIn (tgt := 714) (pc := 39) X.1 dL_law_39 (by rw [e11] <;> decide) (by rw [e11] <;> decide) (by rw [e11] <;> rfl) (by decide) (lc_11 X hj5 hB.2.2.2.2.2.2.2.2.2.2.2.2.1 hI hk1 hn1 kk)
  by_cases e12 : x = 12
  · exact r_tableIn (tgt := 770) (pc := 39) X.1 dL_law_39 (by rw [e12] <;> decide) (by rw [e12] <;> decide) (by rw [e12] <;> rfl) (by decide) (lc_12 X hj5 hB.2.2.2.2.2.2.2.2.2.2.2.2.2.1 hI hk1 hn1 kk)
  by_cases e13 : x = 13
  · exact r_tableIn (tgt := 783) (pc := 39) X.1 dL_law_39 (by rw [e13] <;> decide) (by rw [e13] <;> decide) (by rw [e13] <;> rfl) (by decide) (lc_13 X hj5 hB.2.2.2.2.2.2.2.2.2.2.2.2.2.2.1 hI hk1 hn1 kk)
  by_cases e14 : x = 14
  · exact r_tableIn (tgt := 839) (pc := 39) X.1 dL_law_39 (by rw [e14] <;> decide) (by rw [e14] <;> decide) (by rw [e14] <;> rfl) (by decide) (lc_14 X hj5 hB.2.2.2.2.2.2.2.2.2.2.2.2.2.2.2.1 hI hk1 hn1 kk)
  by_cases e15 : x = 15
  · exact r_tableIn (tgt := 895) (pc := 39) X.1 dL_law_39 (by rw [e15] <;> decide) (by rw [e15] <;> decide) (by rw [e15] <;> rfl) (by decide) (lc_15 X hj5 hB.2.2.2.2.2.2.2.2.2.2.2.2.2.2.2.2.1 hI hk1 hn1 kk)
  by_cases e16 : x = 16
  · exact r_tableIn (tgt := 963) (pc := 39) X.1 dL_law_39 (by rw [e16] <;> decide) (by rw [e16] <;> decide) (by rw [e16] <;> rfl) (by decide) (lc_16 X hj5 hB.2.2.2.2.2.2.2.2.2.2.2.2.2.2.2.2.2.1 hI hk1 hn1 kk)
  by_cases e17 : x = 17
  · exact r_tableIn (tgt := 1043) (pc := 39) X.1 dL_law_39 (by rw [e17] <;> decide) (by rw [e17] <;> decide) (by rw [e17] <;> rfl) (by decide) (lc_17 X hj5 hB.2.2.2.2.2.2.2.2.2.2.2.2.2.2.2.2.2.2.1 hI hk1 hn1 kk)
  by_cases e18 : x = 18
  · exact r_tableIn (tgt := 1099) (pc := 39) X.1 dL_law_39 (by rw [e18] <;> decide) (by rw [e18] <;> decide) (by rw [e18] <;> rfl) (by decide) (lc_18 X hj5 hB.2.2.2.2.2.2.2.2.2.2.2.2.2.2.2.2.2.2.2.1 hI hk1 hn1 kk)
  by_cases e19 : x = 19
  · exact r_tableIn (tgt := 1179) (pc := 39) X.1 dL_law_39 (by rw [e19] <;> decide) (by rw [e19] <;> decide) (by rw [e19] <;> rfl) (by decide) (lc_19 X hj5 hB.2.2.2.2.2.2.2.2.2.2.2.2.2.2.2.2.2.2.2.2.1 hI hk1 hn1 kk)
  by_cases e20 : x = 20
  · exact r_tableIn (tgt := 1235) (pc := 39) X.1 dL_law_39 (by rw [e20] <;> decide) (by rw [e20] <;> decide) (by rw [e20] <;> rfl) (by decide) (lc_20 X hj5 hB.2.2.2.2.2.2.2.2.2.2.2.2.2.2.2.2.2.2.2.2.2.1 hI hk1 hn1 kk)
  by_cases e21 : x = 21
  · exact r_tableIn (tgt := 1291) (pc := 39) X.1 dL_law_39 (by rw [e21] <;> decide) (by rw [e21] <;> decide) (by rw [e21] <;> rfl) (by decide) (lc_21 X hj5 hB.2.2.2.2.2.2.2.2.2.2.2.2.2.2.2.2.2.2.2.2.2.2.1 hI hk1 hn1 kk)
  by_cases e22 : x = 22
  · exact r_tableIn (tgt := 1347) (pc := 39) X.1 dL_law_39 (by rw [e22] <;> decide) (by rw [e22] <;> decide) (by rw [e22] <;> rfl) (by decide) (lc_22 X hj5 hB.2.2.2.2.2.2.2.2.2.2.2.2.2.2.2.2.2.2.2.2.2.2.2.1 hI hk1 hn1 kk)
  by_cases e23 : x = 23
  · exact r_tableIn (tgt := 1360) (pc := 39) X.1 dL_law_39 (by rw [e23] <;> decide) (by rw [e23] <;> decide) (by rw [e23] <;> rfl) (by decide) (lc_23 X hj5 hB.2.2.2.2.2.2.2.2.2.2.2.2.2.2.2.2.2.2.2.2.2.2.2.2.1 hI hk1 hn1 kk)
  by_cases e24 : x = 24
  · exact r_tableIn (tgt := 1373) (pc := 39) X.1 dL_law_39 (by rw [e24] <;> decide) (by rw [e24] <;> decide) (by rw [e24] <;> rfl) (by decide) (lc_24 X hj5 hB.2.2.2.2.2.2.2.2.2.2.2.2.2.2.2.2.2.2.2.2.2.2.2.2.2.1 hI hk1 hn1 kk)
  by_cases e25 : x = 25
  · exact r_tableIn (tgt := 1429) (pc := 39) X.1 dL_law_39 (by rw [e25] <;> decide) (by rw [e25] <;> decide) (by rw [e25] <;> rfl) (by decide) (lc_25 X hj5 hB.2.2.2.2.2.2.2.2.2.2.2.2.2.2.2.2.2.2.2.2.2.2.2.2.2.2.1 hI hk1 hn1 kk)
  by_cases e26 : x = 26
  · exact r_tableIn (tgt := 1485) (pc := 39) X.1 dL_law_39 (by rw [e26] <;> decide) (by rw [e26] <;> decide) (by rw [e26] <;> rfl) (by decide) (lc_26 X hj5 hB.2.2.2.2.2.2.2.2.2.2.2.2.2.2.2.2.2.2.2.2.2.2.2.2.2.2.2.1 hI hk1 hn1 kk)
  by_cases e27 : x = 27
  · exact r_tableIn (tgt := 1541) (pc := 39) X.1 dL_law_39 (by rw [e27] <;> decide) (by rw [e27] <;> decide) (by rw [e27] <;> rfl) (by decide) (lc_27 X hj5 hB.2.2.2.2.2.2.2.2.2.2.2.2.2.2.2.2.2.2.2.2.2.2.2.2.2.2.2.2.1 hI hk1 hn1 kk)
  by_cases e28 : x = 28
  · exact r_tableIn (tgt := 1625) (pc := 39) X.1 dL_law_39 (by rw [e28] <;> decide) (by rw [e28] <;> decide) (by rw [e28] <;> rfl) (by decide) (lc_28 X hj5 hB.2.2.2.2.2.2.2.2.2.2.2.2.2.2.2.2.2.2.2.2.2.2.2.2.2.2.2.2.2 hI hk1 hn1 kk)
  exact r_tableOut (tgt := 1688) (pc := 39) X.1 dL_law_39 (by have q0 := lv_neT e0 (a := 0) (by decide); have q1 := lv_neT e1 (a := 1) (by decide); have q2 := lv_neT e2 (a := 2) (by decide); have q3 := lv_neT e3 (a := 3) (by decide); have q4 := lv_neT e4 (a := 4) (by decide); have q5 := lv_neT e5 (a := 5) (by decide); have q6 := lv_neT e6 (a := 6) (by decide); have q7 := lv_neT e7 (a := 7) (by decide); have q8 := lv_neT e8 (a := 8) (by decide); have q9 := lv_neT e9 (a := 9) (by decide); have q10 := lv_neT e10 (a := 10) (by decide); have q11 := lv_neT e11 (a := 11) (by decide); have q12 := lv_neT e12 (a := 12) (by decide); have q13 := lv_neT e13 (a := 13) (by decide); have q14 := lv_neT e14 (a := 14) (by decide); have q15 := lv_neT e15 (a := 15) (by decide); have q16 := lv_neT e16 (a := 16) (by decide); have q17 := lv_neT e17 (a := 17) (by decide); have q18 := lv_neT e18 (a := 18) (by decide); have q19 := lv_neT e19 (a := 19) (by decide); have q20 := lv_neT e20 (a := 20) (by decide); have q21 := lv_neT e21 (a := 21) (by decide); have q22 := lv_neT e22 (a := 22) (by decide); have q23 := lv_neT e23 (a := 23) (by decide); have q24 := lv_neT e24 (a := 24) (by decide); have q25 := lv_neT e25 (a := 25) (by decide); have q26 := lv_neT e26 (a := 26) (by decide); have q27 := lv_neT e27 (a := 27) (by decide); have q28 := lv_neT e28 (a := 28) (by decide); omega) (by decide) (V.mono (Nat.le_add_right _ 64) (Nat.le_add_right _ 768) (kk σ hI))
