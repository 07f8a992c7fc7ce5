/-! the words that are used; the static cells by their places; what a write does to them -/
theorem w_159 : Cond.fieldLink RX5 9 "Pagerloom$Rota" "people" "I" ∈ WT := WT_in (List.mem_of_getElem? (i := 159) (by decide +kernel)) (by decide +kernel)
theorem wn_473 : Cond.methodLinkNest RX5 40 yX10_isIn "Pagerloom" ∈ tables_1 := List.mem_of_getElem? (i := 400) (by decide +kernel)
theorem w_474 : Cond.static yX10_isIn ∈ WT := WT_in (List.mem_of_getElem? (i := 474) (by decide +kernel)) (by decide +kernel)
theorem w_74 : Cond.initialized RX10 ∈ WT := WT_in (List.mem_of_getElem? (i := 74) (by decide +kernel)) (by decide +kernel)
theorem w_475 : Cond.code yX10_isIn cX10_isIn 3 (some .boolean) ∈ WT := WT_in (List.mem_of_getElem? (i := 475) (by decide +kernel)) (by decide +kernel)
theorem w_162 : Cond.fieldLink RX5 19 "Pagerloom$Rota" "offs" "[I" ∈ WT := WT_in (List.mem_of_getElem? (i := 162) (by decide +kernel)) (by decide +kernel)
theorem w_161 : Cond.fieldLink RX5 15 "Pagerloom$Rota" "swapped" "[I" ∈ WT := WT_in (List.mem_of_getElem? (i := 161) (by decide +kernel)) (by decide +kernel)
theorem w_469 : Cond.methodLink RX5 48 yX5_plannedFor ∈ WT := WT_in (List.mem_of_getElem? (i := 469) (by decide +kernel)) (by decide +kernel)
theorem w_470 : Cond.instanceMethod yX5_plannedFor ∈ WT := WT_in (List.mem_of_getElem? (i := 470) (by decide +kernel)) (by decide +kernel)
theorem w_471 : Cond.selects RX5 yX5_plannedFor yX5_plannedFor ∈ WT := WT_in (List.mem_of_getElem? (i := 471) (by decide +kernel)) (by decide +kernel)
theorem w_76 : Cond.initialized RX5 ∈ WT := WT_in (List.mem_of_getElem? (i := 76) (by decide +kernel)) (by decide +kernel)
theorem w_472 : Cond.code yX5_plannedFor cX5_plannedFor 2 (some .int) ∈ WT := WT_in (List.mem_of_getElem? (i := 472) (by decide +kernel)) (by decide +kernel)
theorem wn_476 : Cond.methodLinkNest RX5 55 yX10_isNight "Pagerloom" ∈ tables_1 := List.mem_of_getElem? (i := 403) (by decide +kernel)
theorem w_477 : Cond.static yX10_isNight ∈ WT := WT_in (List.mem_of_getElem? (i := 477) (by decide +kernel)) (by decide +kernel)
theorem w_478 : Cond.code yX10_isNight cX10_isNight 1 (some .boolean) ∈ WT := WT_in (List.mem_of_getElem? (i := 478) (by decide +kernel)) (by decide +kernel)
theorem w_479 : Cond.methodLink RX5 51 yX5_isOff ∈ WT := WT_in (List.mem_of_getElem? (i := 479) (by decide +kernel)) (by decide +kernel)
theorem w_480 : Cond.instanceMethod yX5_isOff ∈ WT := WT_in (List.mem_of_getElem? (i := 480) (by decide +kernel)) (by decide +kernel)
theorem w_481 : Cond.selects RX5 yX5_isOff yX5_isOff ∈ WT := WT_in (List.mem_of_getElem? (i := 481) (by decide +kernel)) (by decide +kernel)
theorem w_482 : Cond.code yX5_isOff cX5_isOff 3 (some .boolean) ∈ WT := WT_in (List.mem_of_getElem? (i := 482) (by decide +kernel)) (by decide +kernel)
theorem w_166 : Cond.fieldLink RX5 31 "Pagerloom$Rota" "debts" "I" ∈ WT := WT_in (List.mem_of_getElem? (i := 166) (by decide +kernel)) (by decide +kernel)
theorem w_164 : Cond.fieldLink RX5 25 "Pagerloom$Rota" "debtors" "[I" ∈ WT := WT_in (List.mem_of_getElem? (i := 164) (by decide +kernel)) (by decide +kernel)
theorem w_165 : Cond.fieldLink RX5 28 "Pagerloom$Rota" "creditors" "[I" ∈ WT := WT_in (List.mem_of_getElem? (i := 165) (by decide +kernel)) (by decide +kernel)
theorem w_465 : Cond.methodLink RX5 44 yX5_debtPaidIn ∈ WT := WT_in (List.mem_of_getElem? (i := 465) (by decide +kernel)) (by decide +kernel)
theorem w_467 : Cond.instanceMethod yX5_debtPaidIn ∈ WT := WT_in (List.mem_of_getElem? (i := 467) (by decide +kernel)) (by decide +kernel)
theorem w_10 : Cond.selects RX5 yX5_debtPaidIn yX5_debtPaidIn ∈ WT := WT_in (List.mem_of_getElem? (i := 10) (by decide +kernel)) (by decide +kernel)
theorem w_468 : Cond.code yX5_debtPaidIn cX5_debtPaidIn 4 (some .int) ∈ WT := WT_in (List.mem_of_getElem? (i := 468) (by decide +kernel)) (by decide +kernel)
theorem w_168 : Cond.lays RX5 "Pagerloom$Rota" "people" "I" ∈ WT := WT_in (List.mem_of_getElem? (i := 168) (by decide +kernel)) (by decide +kernel)
theorem w_170 : Cond.laysFinal RX5 "Pagerloom$Rota" "swapped" "[I" ∈ WT := WT_in (List.mem_of_getElem? (i := 170) (by decide +kernel)) (by decide +kernel)
theorem w_172 : Cond.laysFinal RX5 "Pagerloom$Rota" "offs" "[I" ∈ WT := WT_in (List.mem_of_getElem? (i := 172) (by decide +kernel)) (by decide +kernel)
theorem w_174 : Cond.laysFinal RX5 "Pagerloom$Rota" "holders" "[I" ∈ WT := WT_in (List.mem_of_getElem? (i := 174) (by decide +kernel)) (by decide +kernel)
theorem w_176 : Cond.laysFinal RX5 "Pagerloom$Rota" "debtors" "[I" ∈ WT := WT_in (List.mem_of_getElem? (i := 176) (by decide +kernel)) (by decide +kernel)
theorem w_178 : Cond.laysFinal RX5 "Pagerloom$Rota" "creditors" "[I" ∈ WT := WT_in (List.mem_of_getElem? (i := 178) (by decide +kernel)) (by decide +kernel)
theorem w_180 : Cond.lays RX5 "Pagerloom$Rota" "debts" "I" ∈ WT := WT_in (List.mem_of_getElem? (i := 180) (by decide +kernel)) (by decide +kernel)
theorem inT5 : ∀ x ∈ u_ws RX5 TX5 7, x ∈ WT := by
  intro x hx
  obtain ⟨k, hk, rfl⟩ := List.mem_map.mp hx
  have hk := List.mem_range.mp hk
  match k, hk with
  | 0, _ => exact w_168
  | 1, _ => exact w_170
  | 2, _ => exact w_172
  | 3, _ => exact w_174
  | 4, _ => exact w_176
  | 5, _ => exact w_178
  | 6, _ => exact w_180
theorem hdS_X10_isIn : yX10_isIn.cls ≠ "java/lang/invoke/MethodHandle" ∧ yX10_isIn.cls ≠ "java/lang/invoke/VarHandle" ∧ (parseMethodDescriptor yX10_isIn.desc).map (fun d => d.parameters.length) = some 3 := by decide +kernel
theorem hdV_X5_plannedFor : yX5_plannedFor.cls = RX5 ∧ yX5_plannedFor.cls ≠ "java/lang/invoke/MethodHandle" ∧ yX5_plannedFor.cls ≠ "java/lang/invoke/VarHandle" ∧ (parseMethodDescriptor yX5_plannedFor.desc).map (fun d => d.parameters.length) = some 1 := by decide +kernel
theorem hdS_X10_isNight : yX10_isNight.cls ≠ "java/lang/invoke/MethodHandle" ∧ yX10_isNight.cls ≠ "java/lang/invoke/VarHandle" ∧ (parseMethodDescriptor yX10_isNight.desc).map (fun d => d.parameters.length) = some 1 := by decide +kernel
theorem hdV_X5_isOff : yX5_isOff.cls = RX5 ∧ yX5_isOff.cls ≠ "java/lang/invoke/MethodHandle" ∧ yX5_isOff.cls ≠ "java/lang/invoke/VarHandle" ∧ (parseMethodDescriptor yX5_isOff.desc).map (fun d => d.parameters.length) = some 2 := by decide +kernel
theorem hdV_X5_debtPaidIn : yX5_debtPaidIn.cls = RX5 ∧ yX5_debtPaidIn.cls ≠ "java/lang/invoke/MethodHandle" ∧ yX5_debtPaidIn.cls ≠ "java/lang/invoke/VarHandle" ∧ (parseMethodDescriptor yX5_debtPaidIn.desc).map (fun d => d.parameters.length) = some 1 := by decide +kernel
section CE
variable {D : DD} {B : Nat} {σ : St}
theorem ce_0 : (cells D B true σ)[0]? = some (.inr (10, [.ref (B + 1), .int (gI σ 1), .int (gI σ 2), .ref (B + 2), .int (gI σ 4), .ref (B + 3), .ref (B + 12), .ref (B + 18), .ref (B + 24), .ref (B + 26), .ref (B + 30), .ref (B + 34)])) := rfl
theorem ce_1 : (cells D B true σ)[1]? = some (.inl (D.2 0, 40, .inl (gA σ 1))) := rfl
theorem ce_2 : (cells D B true σ)[2]? = some (.inl (D.2 4, 4, .inr (.inr (.inr (.inr (fun j => (gQ σ 2 j).map (B + ·))))))) := rfl
theorem ce_3 : (cells D B true σ)[3]? = some (.inr (2, [.ref (B + 4), .ref (B + 5), .ref (B + 6), .ref (B + 7), .ref (B + 8), .ref (B + 9), .ref (B + 10), .ref (B + 11), .int (gI σ 200), .int (gI σ 201)])) := rfl
theorem ce_4 : (cells D B true σ)[4]? = some (.inl (D.2 1, 100, .inl (gA σ 4))) := rfl
theorem ce_5 : (cells D B true σ)[5]? = some (.inl (D.2 1, 100, .inl (gA σ 5))) := rfl
theorem ce_6 : (cells D B true σ)[6]? = some (.inl (D.2 1, 100, .inl (gA σ 6))) := rfl
theorem ce_7 : (cells D B true σ)[7]? = some (.inl (D.2 1, 100, .inl (gA σ 7))) := rfl
theorem ce_8 : (cells D B true σ)[8]? = some (.inl (D.2 1, 100, .inl (gA σ 8))) := rfl
theorem ce_9 : (cells D B true σ)[9]? = some (.inl (D.2 1, 100, .inl (gA σ 9))) := rfl
theorem ce_10 : (cells D B true σ)[10]? = some (.inl (D.2 1, 1002, .inl (gA σ 10))) := rfl
theorem ce_11 : (cells D B true σ)[11]? = some (.inl (D.2 1, 100, .inl (gA σ 11))) := rfl
theorem ce_12 : (cells D B true σ)[12]? = some (.inr (5, [.int (gI σ 768), .ref (B + 13), .ref (B + 14), .ref (B + 15), .ref (B + 16), .ref (B + 17), .int (gI σ 774)])) := rfl
theorem ce_13 : (cells D B true σ)[13]? = some (.inl (D.2 1, 126, .inl (gA σ 13))) := rfl
theorem ce_14 : (cells D B true σ)[14]? = some (.inl (D.2 1, 126, .inl (gA σ 14))) := rfl
theorem ce_15 : (cells D B true σ)[15]? = some (.inl (D.2 1, 126, .inl (gA σ 15))) := rfl
theorem ce_16 : (cells D B true σ)[16]? = some (.inl (D.2 1, 4000, .inl (gA σ 16))) := rfl
theorem ce_17 : (cells D B true σ)[17]? = some (.inl (D.2 1, 4000, .inl (gA σ 17))) := rfl
theorem ce_18 : (cells D B true σ)[18]? = some (.inr (0, [.ref (B + 19), .ref (B + 20), .ref (B + 21), .ref (B + 22), .ref (B + 23), .int (gI σ 1157), .int (gI σ 1158)])) := rfl
theorem ce_19 : (cells D B true σ)[19]? = some (.inl (D.2 1, 4000, .inl (gA σ 19))) := rfl
theorem ce_20 : (cells D B true σ)[20]? = some (.inl (D.2 1, 4000, .inl (gA σ 20))) := rfl
theorem ce_21 : (cells D B true σ)[21]? = some (.inl (D.2 1, 4000, .inl (gA σ 21))) := rfl
theorem ce_22 : (cells D B true σ)[22]? = some (.inl (D.2 1, 4000, .inl (gA σ 22))) := rfl
theorem ce_23 : (cells D B true σ)[23]? = some (.inl (D.2 3, 4000, .inl (gA σ 23))) := rfl
theorem ce_24 : (cells D B true σ)[24]? = some (.inr (4, [rfB B (gR σ 1536), .int (gI σ 1537), .int (gI σ 1538)])) := rfl
theorem ce_25 : (cells D B true σ)[25]? = some (.inl (D.2 0, 0, .inl (gA σ 25))) := rfl
theorem ce_26 : (cells D B true σ)[26]? = some (.inr (1, [.ref (B + 27), .int (gI σ 1665), .ref (B + 28), .ref (B + 29), .int (gI σ 1668), .int (gI σ 1669)])) := rfl
theorem ce_27 : (cells D B true σ)[27]? = some (.inl (D.2 1, 80, .inl (gA σ 27))) := rfl
theorem ce_28 : (cells D B true σ)[28]? = some (.inl (D.2 1, 40, .inl (gA σ 28))) := rfl
theorem ce_29 : (cells D B true σ)[29]? = some (.inl (D.2 1, 40, .inl (gA σ 29))) := rfl
theorem ce_30 : (cells D B true σ)[30]? = some (.inr (9, [.ref (B + 31)])) := rfl
theorem ce_31 : (cells D B true σ)[31]? = some (.inr (8, [.ref (B + 32), .int (gI σ 1985), .long (gL σ 1986), .int (gI σ 1987), .int (gI σ 1988), .int (gI σ 1989), .ref (B + 33)])) := rfl
theorem ce_32 : (cells D B true σ)[32]? = some (.inl (D.2 1, 100, .inl (gA σ 32))) := rfl
theorem ce_33 : (cells D B true σ)[33]? = some (.inl (D.2 1, 2001, .inl (gA σ 33))) := rfl
theorem ce_34 : (cells D B true σ)[34]? = some (.inr (7, [.ref (B + 35), .ref (B + 38), .int (gI σ 2178)])) := rfl
theorem ce_35 : (cells D B true σ)[35]? = some (.inr (8, [.ref (B + 36), .int (gI σ 2241), .long (gL σ 2242), .int (gI σ 2243), .int (gI σ 2244), .int (gI σ 2245), .ref (B + 37)])) := rfl
theorem ce_36 : (cells D B true σ)[36]? = some (.inl (D.2 1, 100, .inl (gA σ 36))) := rfl
theorem ce_37 : (cells D B true σ)[37]? = some (.inl (D.2 1, 2001, .inl (gA σ 37))) := rfl
theorem ce_38 : (cells D B true σ)[38]? = some (.inl (D.2 2, 40, .inr (.inl (gJ σ 38)))) := rfl
theorem ce_39 : (cells D B true σ)[39]? = some (.inr (11, [.ref (B + 40), .int (gI σ 2497), .ref (B + 41), .ref (B + 42), .ref (B + 43), .ref (B + 44), .ref (B + 45), .ref (B + 46), .int (gI σ 2504), .int (gI σ 2505), .int (gI σ 2506), .int (gI σ 2507), .int (gI σ 2508), .int (gI σ 2509), .int (gI σ 2510), .int (gI σ 2511), .int (gI σ 2512), .int (gI σ 2513), .ref (B + 47), .int (gI σ 2515), .ref (B + 48), .int (gI σ 2517), .int (gI σ 2518), .int (gI σ 2519), .ref (B + 49), .ref (B + 50), .int (gI σ 2522), .ref (B + 51), .int (gI σ 2524), .int (gI σ 2525), .int (gI σ 2526), .int (gI σ 2527), .ref (B + 52), .ref (B + 53), .ref (B + 54), .ref (B + 55), .int (gI σ 2532), .ref (B + 56), .ref (B + 57), .ref (B + 58), .int (gI σ 2536), .ref (B + 59), .ref (B + 60), .ref (B + 61), .ref (B + 62), .ref (B + 63), .ref (B + 64), .ref (B + 65), .ref (B + 66), .ref (B + 67), .int (gI σ 2546), .ref (B + 68), .int (gI σ 2548), .ref (B + 69), .int (gI σ 2550), .int (gI σ 2551)])) := rfl
theorem ce_40 : (cells D B true σ)[40]? = some (.inl (D.2 1, 40, .inl (gA σ 40))) := rfl
theorem ce_41 : (cells D B true σ)[41]? = some (.inl (D.2 1, 320, .inl (gA σ 41))) := rfl
theorem ce_42 : (cells D B true σ)[42]? = some (.inl (D.2 1, 320, .inl (gA σ 42))) := rfl
theorem ce_43 : (cells D B true σ)[43]? = some (.inl (D.2 1, 5, .inl (gA σ 43))) := rfl
theorem ce_44 : (cells D B true σ)[44]? = some (.inl (D.2 1, 320, .inl (gA σ 44))) := rfl
theorem ce_45 : (cells D B true σ)[45]? = some (.inl (D.2 1, 320, .inl (gA σ 45))) := rfl
theorem ce_46 : (cells D B true σ)[46]? = some (.inl (D.2 1, 5, .inl (gA σ 46))) := rfl
theorem ce_47 : (cells D B true σ)[47]? = some (.inl (D.2 1, 64, .inl (gA σ 47))) := rfl
theorem ce_48 : (cells D B true σ)[48]? = some (.inl (D.2 1, 64, .inl (gA σ 48))) := rfl
theorem ce_49 : (cells D B true σ)[49]? = some (.inl (D.2 3, 64, .inl (gA σ 49))) := rfl
theorem ce_50 : (cells D B true σ)[50]? = some (.inl (D.2 2, 64, .inr (.inl (gJ σ 50)))) := rfl
theorem ce_51 : (cells D B true σ)[51]? = some (.inl (D.2 3, 64, .inl (gA σ 51))) := rfl
theorem ce_52 : (cells D B true σ)[52]? = some (.inl (D.2 1, 100, .inl (gA σ 52))) := rfl
theorem ce_53 : (cells D B true σ)[53]? = some (.inl (D.2 1, 100, .inl (gA σ 53))) := rfl
theorem ce_54 : (cells D B true σ)[54]? = some (.inl (D.2 1, 100, .inl (gA σ 54))) := rfl
theorem ce_55 : (cells D B true σ)[55]? = some (.inl (D.2 1, 100, .inl (gA σ 55))) := rfl
theorem ce_56 : (cells D B true σ)[56]? = some (.inl (D.2 3, 1008, .inl (gA σ 56))) := rfl
theorem ce_57 : (cells D B true σ)[57]? = some (.inl (D.2 1, 126, .inl (gA σ 57))) := rfl
theorem ce_58 : (cells D B true σ)[58]? = some (.inl (D.2 1, 126, .inl (gA σ 58))) := rfl
theorem ce_59 : (cells D B true σ)[59]? = some (.inl (D.2 1, 4, .inl (gA σ 59))) := rfl
theorem ce_60 : (cells D B true σ)[60]? = some (.inl (D.2 1, 4, .inl (gA σ 60))) := rfl
theorem ce_61 : (cells D B true σ)[61]? = some (.inl (D.2 1, 4, .inl (gA σ 61))) := rfl
theorem ce_62 : (cells D B true σ)[62]? = some (.inl (D.2 3, 4, .inl (gA σ 62))) := rfl
theorem ce_63 : (cells D B true σ)[63]? = some (.inl (D.2 1, 4, .inl (gA σ 63))) := rfl
theorem ce_64 : (cells D B true σ)[64]? = some (.inl (D.2 1, 4, .inl (gA σ 64))) := rfl
theorem ce_65 : (cells D B true σ)[65]? = some (.inl (D.2 1, 4, .inl (gA σ 65))) := rfl
theorem ce_66 : (cells D B true σ)[66]? = some (.inl (D.2 1, 20, .inl (gA σ 66))) := rfl
theorem ce_67 : (cells D B true σ)[67]? = some (.inl (D.2 1, 20, .inl (gA σ 67))) := rfl
theorem ce_68 : (cells D B true σ)[68]? = some (.inl (D.2 1, 4000, .inl (gA σ 68))) := rfl
theorem ce_69 : (cells D B true σ)[69]? = some (.inl (D.2 1, 4000, .inl (gA σ 69))) := rfl
theorem ce_70 : (cells D B true σ)[70]? = some (.inl (D.2 2, 1, .inr (.inl (gJ σ 70)))) := rfl
theorem ca_13 (j : Nat) (x : Int32) : cells D B true (sA σ 13 j x) = (cells D B true σ).set 13 (.inl (D.2 1, 126, .inl (ups (gA σ 13) j x))) := rfl
theorem ca_14 (j : Nat) (x : Int32) : cells D B true (sA σ 14 j x) = (cells D B true σ).set 14 (.inl (D.2 1, 126, .inl (ups (gA σ 14) j x))) := rfl
end CE
