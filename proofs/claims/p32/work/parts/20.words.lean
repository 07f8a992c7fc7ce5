section ZA
variable {Γ : Ga} {D : DD} {B : Nat} {w : Bool} {own : String} {cc : ByteArray} {nL Z : Nat} {rm : Room} {Q : State → Prop} {σ : St} {pc : Nat} {lv : List (Nat × Value)} {st : List Value}
/-- an object into the row of rules -/
theorem z_aast (X : Cx Γ own cc nL D B rm) {a m : Nat} {f : Nat → Option Nat} {i : Int32} {x : Option Nat} {α : Type} {G : Nat → St → Option α} {z : α} (he : (cells D B w σ)[a]? = some (.inl (D.2 4, m, .inr (.inr (.inr (.inr (fun j => (f j).map (B + ·)))))))) (hcs : ∀ j, cells D B w (sQ σ a j x) = (cells D B w σ).set a (.inl (D.2 4, m, .inr (.inr (.inr (.inr (fun y => (ups f j x y).map (B + ·)))))))) (d : decode cc pc = .ok (.aastore, 1))
    (hf : ((dgo σ x 6).bind fun _ => (ix m i).bind fun j => lt (sQ σ a j x) (G j)) = some z) (kk : ∀ j s1, G j s1 = some z → V Γ D B w nL Q (kz Γ B Z s1) (12 * kz Γ B Z s1) s1 (pc + 1) lv st) : V Γ D B w nL Q (kz Γ B Z σ) (12 * kz Γ B Z σ) σ pc lv (rfB B x :: .int i :: .ref (B + a) :: st) :=
  bnd hf fun o ho hz => bnd hz fun j hj hz H locs ls cs ss hP hS hl hk hn => by
    obtain ⟨h1, rfl, hlt⟩ := ix_some hj
    have hi0 : ¬ i < 0 := fun q => h1 (Or.inl q)
    obtain ⟨hx, hg⟩ := dgo_some ho
    subst hx
    obtain ⟨-, hat⟩ := hP.2.2 _ _ hg
    obtain ⟨cellV, g1, g2, g3⟩ := recv X.2.2.2.2.2.1.1 (ci := 6) rfl hat
    have hK := X.2.2.2.2.2.1.1
    obtain ⟨kA, comp, k1, k2, k3, -⟩ := (hK.2 4 _ rfl).2
    obtain ⟨kE, hkE, -⟩ := Vm.findClass_spec k3
    obtain ⟨kC, hkC, -⟩ := Vm.findClass_spec g3
    refine W.aast X.1 X.2.1 (hP.2.1 a _ he) (fun q h => by cases h) (fun h => by cases h) k1 k2 rfl hkE ⟨hi0, by show _ < (arrV _ _ _).slots.size; rw [arrV_size]; exact hlt⟩ g1 (fun q h => by rw [h] at g2; cases g2) hkC (vb_asgS _ _ k3 g3) rfl rfl d fun H1 e1 z1 o1 => ?_
    have e2 : va_at D.1 vwCl (B + a, .inl (D.2 4, m, .inr (.inr (.inr (.inr (fun y => (ups f i.toNatClampNeg (some o.1) y).map (B + ·))))))) H1 := by
      show H1[B + a]? = some (vp_cell _ _)
      rw [e1]
      rw [vp_cell_q, vp_cell_q, arrV_store]
      congr 2
      funext y
      unfold ups
      by_cases hy : y = i.toNatClampNeg
      · rw [if_pos hy]; subst hy; simp [updV, va_rf]
      · rw [if_neg hy]; simp [updV, hy]
    have hk' : kz Γ B Z (sQ σ a i.toNatClampNeg (some o.1)) = kz Γ B Z σ := kz_eq rfl
    exact kk _ _ hz H1 _ ls cs ss (hP.put (hcs _) rfl rfl e2 z1 o1 (List.getElem?_eq_some_iff.mp he).1) (hS.put z1 o1 (Nat.le_add_right B a)) hl (by rw [hk']; exact hk) (by rw [hk']; exact hn)
theorem hdv3 {B : Nat} : ∀ j t, (fty 3)[j]? = some t → defaultValue (tyX3 j) = fv B (fun _ => 0, fun _ => none, fun _ => 0) j t := by
  intro j t h
  have hj : j < 4 := (List.getElem?_eq_some_iff.mp h).1
  rcases (by omega : j = 0 ∨ j = 1 ∨ j = 2 ∨ j = 3) with rfl | rfl | rfl | rfl <;> (cases h; rfl)
theorem hdv6 {B : Nat} : ∀ j t, (fty 6)[j]? = some t → defaultValue (tyX6 j) = fv B (fun _ => 0, fun _ => none, fun _ => 0) j t := by
  intro j t h
  have hj : j < 11 := (List.getElem?_eq_some_iff.mp h).1
  rcases (by omega : j = 0 ∨ j = 1 ∨ j = 2 ∨ j = 3 ∨ j = 4 ∨ j = 5 ∨ j = 6 ∨ j = 7 ∨ j = 8 ∨ j = 9 ∨ j = 10) with rfl | rfl | rfl | rfl | rfl | rfl | rfl | rfl | rfl | rfl | rfl <;> (cases h; rfl)
end ZA
theorem w_548 : Cond.methodLink RX9 18 yX9_valueOf ∈ WT := WT_in (List.mem_of_getElem? (i := 548) (by decide +kernel)) (by decide +kernel)
theorem w_550 : Cond.instanceMethod yX9_valueOf ∈ WT := WT_in (List.mem_of_getElem? (i := 550) (by decide +kernel)) (by decide +kernel)
theorem w_8 : Cond.selects RX9 yX9_valueOf yX9_valueOf ∈ WT := WT_in (List.mem_of_getElem? (i := 8) (by decide +kernel)) (by decide +kernel)
theorem w_43 : Cond.initialized RX9 ∈ WT := WT_in (List.mem_of_getElem? (i := 43) (by decide +kernel)) (by decide +kernel)
theorem w_551 : Cond.code yX9_valueOf cX9_valueOf 5 (some .long) ∈ WT := WT_in (List.mem_of_getElem? (i := 551) (by decide +kernel)) (by decide +kernel)
theorem w_660 : Cond.fieldLink RX9 45 "Pagerloom$Node" "number" "I" ∈ WT := WT_in (List.mem_of_getElem? (i := 660) (by decide +kernel)) (by decide +kernel)
theorem wn_584 : Cond.methodLinkNest RX9 55 yX10_combined "Pagerloom" ∈ tables_1 := List.mem_of_getElem? (i := 549) (by decide +kernel)
theorem w_562 : Cond.methodLink RX9 41 yX9_gathered ∈ WT := WT_in (List.mem_of_getElem? (i := 562) (by decide +kernel)) (by decide +kernel)
theorem w_564 : Cond.instanceMethod yX9_gathered ∈ WT := WT_in (List.mem_of_getElem? (i := 564) (by decide +kernel)) (by decide +kernel)
theorem w_9 : Cond.selects RX9 yX9_gathered yX9_gathered ∈ WT := WT_in (List.mem_of_getElem? (i := 9) (by decide +kernel)) (by decide +kernel)
theorem w_565 : Cond.code yX9_gathered cX9_gathered 6 (some .long) ∈ WT := WT_in (List.mem_of_getElem? (i := 565) (by decide +kernel)) (by decide +kernel)
theorem w_640 : Cond.methodLink RX4 26 yX4_readUnit ∈ WT := WT_in (List.mem_of_getElem? (i := 640) (by decide +kernel)) (by decide +kernel)
theorem w_642 : Cond.instanceMethod yX4_readUnit ∈ WT := WT_in (List.mem_of_getElem? (i := 642) (by decide +kernel)) (by decide +kernel)
theorem w_13 : Cond.selects RX4 yX4_readUnit yX4_readUnit ∈ WT := WT_in (List.mem_of_getElem? (i := 13) (by decide +kernel)) (by decide +kernel)
theorem w_643 : Cond.code yX4_readUnit cX4_readUnit 3 (some (.object "Pagerloom$Node")) ∈ WT := WT_in (List.mem_of_getElem? (i := 643) (by decide +kernel)) (by decide +kernel)
theorem w_706 : Cond.methodLink RX4 42 yX4_isSignOf ∈ WT := WT_in (List.mem_of_getElem? (i := 706) (by decide +kernel)) (by decide +kernel)
theorem w_707 : Cond.static yX4_isSignOf ∈ WT := WT_in (List.mem_of_getElem? (i := 707) (by decide +kernel)) (by decide +kernel)
theorem w_708 : Cond.code yX4_isSignOf cX4_isSignOf 2 (some .boolean) ∈ WT := WT_in (List.mem_of_getElem? (i := 708) (by decide +kernel)) (by decide +kernel)
theorem w_651 : Cond.classLink RX4 33 RX3 ∈ WT := WT_in (List.mem_of_getElem? (i := 651) (by decide +kernel)) (by decide +kernel)
theorem w_652 : Cond.instantiable RX3 4 ∈ WT := WT_in (List.mem_of_getElem? (i := 652) (by decide +kernel)) (by decide +kernel)
theorem w_46 : Cond.initialized RX3 ∈ WT := WT_in (List.mem_of_getElem? (i := 46) (by decide +kernel)) (by decide +kernel)
theorem w_656 : Cond.methodLink RX3 1 objectInit ∈ WT := WT_in (List.mem_of_getElem? (i := 656) (by decide +kernel)) (by decide +kernel)
theorem w_62 : Cond.instanceMethod objectInit ∈ WT := WT_in (List.mem_of_getElem? (i := 62) (by decide +kernel)) (by decide +kernel)
theorem w_657 : Cond.fieldLink RX3 7 "Pagerloom$Node" "kind" "I" ∈ WT := WT_in (List.mem_of_getElem? (i := 657) (by decide +kernel)) (by decide +kernel)
theorem w_659 : Cond.fieldLink RX3 13 "Pagerloom$Node" "number" "I" ∈ WT := WT_in (List.mem_of_getElem? (i := 659) (by decide +kernel)) (by decide +kernel)
theorem w_661 : Cond.fieldLink RX3 16 "Pagerloom$Node" "left" "LPagerloom$Node;" ∈ WT := WT_in (List.mem_of_getElem? (i := 661) (by decide +kernel)) (by decide +kernel)
theorem w_663 : Cond.fieldLink RX3 20 "Pagerloom$Node" "right" "LPagerloom$Node;" ∈ WT := WT_in (List.mem_of_getElem? (i := 663) (by decide +kernel)) (by decide +kernel)
theorem w_653 : Cond.methodLink RX4 35 yX3_init ∈ WT := WT_in (List.mem_of_getElem? (i := 653) (by decide +kernel)) (by decide +kernel)
theorem w_654 : Cond.instanceMethod yX3_init ∈ WT := WT_in (List.mem_of_getElem? (i := 654) (by decide +kernel)) (by decide +kernel)
theorem w_655 : Cond.code yX3_init cX3_init 5 none ∈ WT := WT_in (List.mem_of_getElem? (i := 655) (by decide +kernel)) (by decide +kernel)
theorem w_695 : Cond.methodLink RX4 30 yX4_readTerm ∈ WT := WT_in (List.mem_of_getElem? (i := 695) (by decide +kernel)) (by decide +kernel)
theorem w_697 : Cond.instanceMethod yX4_readTerm ∈ WT := WT_in (List.mem_of_getElem? (i := 697) (by decide +kernel)) (by decide +kernel)
theorem w_19 : Cond.selects RX4 yX4_readTerm yX4_readTerm ∈ WT := WT_in (List.mem_of_getElem? (i := 19) (by decide +kernel)) (by decide +kernel)
theorem w_698 : Cond.code yX4_readTerm cX4_readTerm 3 (some (.object "Pagerloom$Node")) ∈ WT := WT_in (List.mem_of_getElem? (i := 698) (by decide +kernel)) (by decide +kernel)
theorem w_636 : Cond.methodLink RX4 22 yX4_readChain ∈ WT := WT_in (List.mem_of_getElem? (i := 636) (by decide +kernel)) (by decide +kernel)
theorem w_638 : Cond.instanceMethod yX4_readChain ∈ WT := WT_in (List.mem_of_getElem? (i := 638) (by decide +kernel)) (by decide +kernel)
theorem w_12 : Cond.selects RX4 yX4_readChain yX4_readChain ∈ WT := WT_in (List.mem_of_getElem? (i := 12) (by decide +kernel)) (by decide +kernel)
theorem w_639 : Cond.code yX4_readChain cX4_readChain 8 (some (.object "Pagerloom$Node")) ∈ WT := WT_in (List.mem_of_getElem? (i := 639) (by decide +kernel)) (by decide +kernel)
theorem w_648 : Cond.methodLink RX4 50 yX4_before ∈ WT := WT_in (List.mem_of_getElem? (i := 648) (by decide +kernel)) (by decide +kernel)
theorem w_649 : Cond.static yX4_before ∈ WT := WT_in (List.mem_of_getElem? (i := 649) (by decide +kernel)) (by decide +kernel)
theorem w_650 : Cond.code yX4_before cX4_before 2 (some (.object "Pagerloom$Node")) ∈ WT := WT_in (List.mem_of_getElem? (i := 650) (by decide +kernel)) (by decide +kernel)
theorem w_674 : Cond.methodLink RX4 54 yX4_closed ∈ WT := WT_in (List.mem_of_getElem? (i := 674) (by decide +kernel)) (by decide +kernel)
theorem w_676 : Cond.instanceMethod yX4_closed ∈ WT := WT_in (List.mem_of_getElem? (i := 676) (by decide +kernel)) (by decide +kernel)
theorem w_15 : Cond.selects RX4 yX4_closed yX4_closed ∈ WT := WT_in (List.mem_of_getElem? (i := 15) (by decide +kernel)) (by decide +kernel)
theorem w_677 : Cond.code yX4_closed cX4_closed 2 (some (.object "Pagerloom$Node")) ∈ WT := WT_in (List.mem_of_getElem? (i := 677) (by decide +kernel)) (by decide +kernel)
theorem wn_678 : Cond.methodLinkNest RX4 58 yX10_isAggregate "Pagerloom" ∈ tables_1 := List.mem_of_getElem? (i := 643) (by decide +kernel)
theorem wn_692 : Cond.methodLinkNest RX4 77 yX10_isDigit "Pagerloom" ∈ tables_1 := List.mem_of_getElem? (i := 657) (by decide +kernel)
theorem w_688 : Cond.methodLink RX4 64 yX4_readNumber ∈ WT := WT_in (List.mem_of_getElem? (i := 688) (by decide +kernel)) (by decide +kernel)
theorem w_690 : Cond.instanceMethod yX4_readNumber ∈ WT := WT_in (List.mem_of_getElem? (i := 690) (by decide +kernel)) (by decide +kernel)
theorem w_18 : Cond.selects RX4 yX4_readNumber yX4_readNumber ∈ WT := WT_in (List.mem_of_getElem? (i := 18) (by decide +kernel)) (by decide +kernel)
theorem w_691 : Cond.code yX4_readNumber cX4_readNumber 3 (some (.object "Pagerloom$Node")) ∈ WT := WT_in (List.mem_of_getElem? (i := 691) (by decide +kernel)) (by decide +kernel)
theorem w_679 : Cond.methodLink RX4 61 yX4_readAggregate ∈ WT := WT_in (List.mem_of_getElem? (i := 679) (by decide +kernel)) (by decide +kernel)
theorem w_681 : Cond.instanceMethod yX4_readAggregate ∈ WT := WT_in (List.mem_of_getElem? (i := 681) (by decide +kernel)) (by decide +kernel)
theorem w_16 : Cond.selects RX4 yX4_readAggregate yX4_readAggregate ∈ WT := WT_in (List.mem_of_getElem? (i := 16) (by decide +kernel)) (by decide +kernel)
theorem w_682 : Cond.code yX4_readAggregate cX4_readAggregate 5 (some (.object "Pagerloom$Node")) ∈ WT := WT_in (List.mem_of_getElem? (i := 682) (by decide +kernel)) (by decide +kernel)
theorem w_683 : Cond.methodLink RX4 68 yX4_readField ∈ WT := WT_in (List.mem_of_getElem? (i := 683) (by decide +kernel)) (by decide +kernel)
theorem w_685 : Cond.instanceMethod yX4_readField ∈ WT := WT_in (List.mem_of_getElem? (i := 685) (by decide +kernel)) (by decide +kernel)
theorem w_17 : Cond.selects RX4 yX4_readField yX4_readField ∈ WT := WT_in (List.mem_of_getElem? (i := 17) (by decide +kernel)) (by decide +kernel)
theorem w_686 : Cond.code yX4_readField cX4_readField 2 (some (.object "Pagerloom$Node")) ∈ WT := WT_in (List.mem_of_getElem? (i := 686) (by decide +kernel)) (by decide +kernel)
theorem w_699 : Cond.methodLink RX4 71 yX4_readComparison ∈ WT := WT_in (List.mem_of_getElem? (i := 699) (by decide +kernel)) (by decide +kernel)
theorem w_701 : Cond.instanceMethod yX4_readComparison ∈ WT := WT_in (List.mem_of_getElem? (i := 701) (by decide +kernel)) (by decide +kernel)
theorem w_20 : Cond.selects RX4 yX4_readComparison yX4_readComparison ∈ WT := WT_in (List.mem_of_getElem? (i := 20) (by decide +kernel)) (by decide +kernel)
theorem w_702 : Cond.code yX4_readComparison cX4_readComparison 5 (some (.object "Pagerloom$Node")) ∈ WT := WT_in (List.mem_of_getElem? (i := 702) (by decide +kernel)) (by decide +kernel)
theorem w_447 : Cond.classLink RX10 78 "java/lang/IllegalArgumentException" ∈ WT := WT_in (List.mem_of_getElem? (i := 447) (by decide +kernel)) (by decide +kernel)
theorem w_52 : Cond.initialized "java/lang/IllegalArgumentException" ∈ WT := WT_in (List.mem_of_getElem? (i := 52) (by decide +kernel)) (by decide +kernel)
theorem w_463 : Cond.classLink RX10 85 "java/lang/IllegalStateException" ∈ WT := WT_in (List.mem_of_getElem? (i := 463) (by decide +kernel)) (by decide +kernel)
theorem w_53 : Cond.initialized "java/lang/IllegalStateException" ∈ WT := WT_in (List.mem_of_getElem? (i := 53) (by decide +kernel)) (by decide +kernel)
theorem w_632 : Cond.methodLink RX10 90 yX4_read ∈ WT := WT_in (List.mem_of_getElem? (i := 632) (by decide +kernel)) (by decide +kernel)
theorem w_633 : Cond.instanceMethod yX4_read ∈ WT := WT_in (List.mem_of_getElem? (i := 633) (by decide +kernel)) (by decide +kernel)
theorem w_634 : Cond.selects RX4 yX4_read yX4_read ∈ WT := WT_in (List.mem_of_getElem? (i := 634) (by decide +kernel)) (by decide +kernel)
theorem w_635 : Cond.code yX4_read cX4_read 4 (some (.object "Pagerloom$Node")) ∈ WT := WT_in (List.mem_of_getElem? (i := 635) (by decide +kernel)) (by decide +kernel)
theorem w_880 : Cond.methodLink RX10 94 yX4_place ∈ WT := WT_in (List.mem_of_getElem? (i := 880) (by decide +kernel)) (by decide +kernel)
theorem w_881 : Cond.instanceMethod yX4_place ∈ WT := WT_in (List.mem_of_getElem? (i := 881) (by decide +kernel)) (by decide +kernel)
theorem w_882 : Cond.selects RX4 yX4_place yX4_place ∈ WT := WT_in (List.mem_of_getElem? (i := 882) (by decide +kernel)) (by decide +kernel)
theorem w_883 : Cond.code yX4_place cX4_place 1 (some .int) ∈ WT := WT_in (List.mem_of_getElem? (i := 883) (by decide +kernel)) (by decide +kernel)
theorem w_544 : Cond.methodLink RX10 110 yX9_run ∈ WT := WT_in (List.mem_of_getElem? (i := 544) (by decide +kernel)) (by decide +kernel)
theorem w_545 : Cond.instanceMethod yX9_run ∈ WT := WT_in (List.mem_of_getElem? (i := 545) (by decide +kernel)) (by decide +kernel)
theorem w_546 : Cond.selects RX9 yX9_run yX9_run ∈ WT := WT_in (List.mem_of_getElem? (i := 546) (by decide +kernel)) (by decide +kernel)
theorem w_547 : Cond.code yX9_run cX9_run 3 (some .long) ∈ WT := WT_in (List.mem_of_getElem? (i := 547) (by decide +kernel)) (by decide +kernel)
theorem w_289 : Cond.fieldLink RX10 60 "Pagerloom" "coder" "LPagerloom$Coder;" ∈ WT := WT_in (List.mem_of_getElem? (i := 289) (by decide +kernel)) (by decide +kernel)
theorem w_894 : Cond.methodLink RX10 114 yX1_turn ∈ WT := WT_in (List.mem_of_getElem? (i := 894) (by decide +kernel)) (by decide +kernel)
theorem w_895 : Cond.instanceMethod yX1_turn ∈ WT := WT_in (List.mem_of_getElem? (i := 895) (by decide +kernel)) (by decide +kernel)
theorem w_896 : Cond.selects RX1 yX1_turn yX1_turn ∈ WT := WT_in (List.mem_of_getElem? (i := 896) (by decide +kernel)) (by decide +kernel)
theorem w_897 : Cond.code yX1_turn cX1_turn 5 none ∈ WT := WT_in (List.mem_of_getElem? (i := 897) (by decide +kernel)) (by decide +kernel)
theorem w_291 : Cond.fieldLink RX10 74 "Pagerloom" "runner" "LPagerloom$Runner;" ∈ WT := WT_in (List.mem_of_getElem? (i := 291) (by decide +kernel)) (by decide +kernel)
theorem w_203 : Cond.fieldLink RX10 118 "Pagerloom$Coder" "codes" "[I" ∈ WT := WT_in (List.mem_of_getElem? (i := 203) (by decide +kernel)) (by decide +kernel)
theorem w_205 : Cond.fieldLink RX10 122 "Pagerloom$Coder" "size" "I" ∈ WT := WT_in (List.mem_of_getElem? (i := 205) (by decide +kernel)) (by decide +kernel)
theorem w_938 : Cond.methodLink RX10 125 yX7_run ∈ WT := WT_in (List.mem_of_getElem? (i := 938) (by decide +kernel)) (by decide +kernel)
theorem w_939 : Cond.instanceMethod yX7_run ∈ WT := WT_in (List.mem_of_getElem? (i := 939) (by decide +kernel)) (by decide +kernel)
theorem w_940 : Cond.selects RX7 yX7_run yX7_run ∈ WT := WT_in (List.mem_of_getElem? (i := 940) (by decide +kernel)) (by decide +kernel)
theorem w_941 : Cond.code yX7_run cX7_run 6 (some .long) ∈ WT := WT_in (List.mem_of_getElem? (i := 941) (by decide +kernel)) (by decide +kernel)
theorem w_514 : Cond.methodLink RX10 249 yX10_isDue ∈ WT := WT_in (List.mem_of_getElem? (i := 514) (by decide +kernel)) (by decide +kernel)
theorem w_516 : Cond.instanceMethod yX10_isDue ∈ WT := WT_in (List.mem_of_getElem? (i := 516) (by decide +kernel)) (by decide +kernel)
theorem w_6 : Cond.selects RX10 yX10_isDue yX10_isDue ∈ WT := WT_in (List.mem_of_getElem? (i := 6) (by decide +kernel)) (by decide +kernel)
theorem w_517 : Cond.code yX10_isDue cX10_isDue 4 (some .boolean) ∈ WT := WT_in (List.mem_of_getElem? (i := 517) (by decide +kernel)) (by decide +kernel)
theorem w_732 : Cond.fieldLink RX10 228 "Pagerloom$Rule" "riseCount" "I" ∈ WT := WT_in (List.mem_of_getElem? (i := 732) (by decide +kernel)) (by decide +kernel)
theorem w_587 : Cond.methodLink RX10 309 yX0_add ∈ WT := WT_in (List.mem_of_getElem? (i := 587) (by decide +kernel)) (by decide +kernel)
theorem w_588 : Cond.instanceMethod yX0_add ∈ WT := WT_in (List.mem_of_getElem? (i := 588) (by decide +kernel)) (by decide +kernel)
theorem w_589 : Cond.selects RX0 yX0_add yX0_add ∈ WT := WT_in (List.mem_of_getElem? (i := 589) (by decide +kernel)) (by decide +kernel)
theorem w_590 : Cond.code yX0_add cX0_add 3 none ∈ WT := WT_in (List.mem_of_getElem? (i := 590) (by decide +kernel)) (by decide +kernel)
theorem w_486 : Cond.methodLink RX10 139 yX10_comeHour ∈ WT := WT_in (List.mem_of_getElem? (i := 486) (by decide +kernel)) (by decide +kernel)
theorem w_488 : Cond.instanceMethod yX10_comeHour ∈ WT := WT_in (List.mem_of_getElem? (i := 488) (by decide +kernel)) (by decide +kernel)
theorem w_4 : Cond.selects RX10 yX10_comeHour yX10_comeHour ∈ WT := WT_in (List.mem_of_getElem? (i := 4) (by decide +kernel)) (by decide +kernel)
theorem w_489 : Cond.code yX10_comeHour cX10_comeHour 4 none ∈ WT := WT_in (List.mem_of_getElem? (i := 489) (by decide +kernel)) (by decide +kernel)
theorem w_83 : Cond.fieldLink RX10 146 "Pagerloom$Logs" "count" "I" ∈ WT := WT_in (List.mem_of_getElem? (i := 83) (by decide +kernel)) (by decide +kernel)
theorem w_599 : Cond.methodLink RX10 149 yX2_add ∈ WT := WT_in (List.mem_of_getElem? (i := 599) (by decide +kernel)) (by decide +kernel)
theorem w_600 : Cond.instanceMethod yX2_add ∈ WT := WT_in (List.mem_of_getElem? (i := 600) (by decide +kernel)) (by decide +kernel)
theorem w_601 : Cond.selects RX2 yX2_add yX2_add ∈ WT := WT_in (List.mem_of_getElem? (i := 601) (by decide +kernel)) (by decide +kernel)
theorem w_602 : Cond.code yX2_add cX2_add 6 (some .int) ∈ WT := WT_in (List.mem_of_getElem? (i := 602) (by decide +kernel)) (by decide +kernel)
theorem w_359 : Cond.classLink RX10 162 "java/lang/IndexOutOfBoundsException" ∈ WT := WT_in (List.mem_of_getElem? (i := 359) (by decide +kernel)) (by decide +kernel)
theorem w_50 : Cond.initialized "java/lang/IndexOutOfBoundsException" ∈ WT := WT_in (List.mem_of_getElem? (i := 50) (by decide +kernel)) (by decide +kernel)
theorem w_622 : Cond.methodLink RX10 172 yX5_turnOff ∈ WT := WT_in (List.mem_of_getElem? (i := 622) (by decide +kernel)) (by decide +kernel)
theorem w_623 : Cond.instanceMethod yX5_turnOff ∈ WT := WT_in (List.mem_of_getElem? (i := 623) (by decide +kernel)) (by decide +kernel)
theorem w_624 : Cond.selects RX5 yX5_turnOff yX5_turnOff ∈ WT := WT_in (List.mem_of_getElem? (i := 624) (by decide +kernel)) (by decide +kernel)
theorem w_625 : Cond.code yX5_turnOff cX5_turnOff 3 none ∈ WT := WT_in (List.mem_of_getElem? (i := 625) (by decide +kernel)) (by decide +kernel)
theorem w_626 : Cond.methodLink RX10 176 yX5_isOff ∈ WT := WT_in (List.mem_of_getElem? (i := 626) (by decide +kernel)) (by decide +kernel)
theorem w_805 : Cond.methodLink RX10 182 yX5_plannedFor ∈ WT := WT_in (List.mem_of_getElem? (i := 805) (by decide +kernel)) (by decide +kernel)
theorem w_1002 : Cond.methodLink RX10 190 yX5_give ∈ WT := WT_in (List.mem_of_getElem? (i := 1002) (by decide +kernel)) (by decide +kernel)
theorem w_1003 : Cond.instanceMethod yX5_give ∈ WT := WT_in (List.mem_of_getElem? (i := 1003) (by decide +kernel)) (by decide +kernel)
theorem w_1004 : Cond.selects RX5 yX5_give yX5_give ∈ WT := WT_in (List.mem_of_getElem? (i := 1004) (by decide +kernel)) (by decide +kernel)
theorem w_1005 : Cond.code yX5_give cX5_give 3 none ∈ WT := WT_in (List.mem_of_getElem? (i := 1005) (by decide +kernel)) (by decide +kernel)
theorem w_814 : Cond.methodLink RX10 199 yX5_nightsOf ∈ WT := WT_in (List.mem_of_getElem? (i := 814) (by decide +kernel)) (by decide +kernel)
theorem w_815 : Cond.instanceMethod yX5_nightsOf ∈ WT := WT_in (List.mem_of_getElem? (i := 815) (by decide +kernel)) (by decide +kernel)
theorem w_816 : Cond.selects RX5 yX5_nightsOf yX5_nightsOf ∈ WT := WT_in (List.mem_of_getElem? (i := 816) (by decide +kernel)) (by decide +kernel)
theorem w_817 : Cond.code yX5_nightsOf cX5_nightsOf 4 (some .int) ∈ WT := WT_in (List.mem_of_getElem? (i := 817) (by decide +kernel)) (by decide +kernel)
theorem w_822 : Cond.methodLink RX10 202 yX5_debtsOf ∈ WT := WT_in (List.mem_of_getElem? (i := 822) (by decide +kernel)) (by decide +kernel)
theorem w_823 : Cond.instanceMethod yX5_debtsOf ∈ WT := WT_in (List.mem_of_getElem? (i := 823) (by decide +kernel)) (by decide +kernel)
theorem w_824 : Cond.selects RX5 yX5_debtsOf yX5_debtsOf ∈ WT := WT_in (List.mem_of_getElem? (i := 824) (by decide +kernel)) (by decide +kernel)
theorem w_825 : Cond.code yX5_debtsOf cX5_debtsOf 5 (some .int) ∈ WT := WT_in (List.mem_of_getElem? (i := 825) (by decide +kernel)) (by decide +kernel)
theorem w_64 : Cond.classLink RX10 20 RX6 ∈ WT := WT_in (List.mem_of_getElem? (i := 64) (by decide +kernel)) (by decide +kernel)
theorem w_711 : Cond.instantiable RX6 11 ∈ WT := WT_in (List.mem_of_getElem? (i := 711) (by decide +kernel)) (by decide +kernel)
theorem w_715 : Cond.methodLink RX6 3 objectInit ∈ WT := WT_in (List.mem_of_getElem? (i := 715) (by decide +kernel)) (by decide +kernel)
theorem w_110 : Cond.arrayClass .int ∈ WT := WT_in (List.mem_of_getElem? (i := 110) (by decide +kernel)) (by decide +kernel)
theorem w_731 : Cond.fieldLink RX6 25 "Pagerloom$Rule" "riseCount" "I" ∈ WT := WT_in (List.mem_of_getElem? (i := 731) (by decide +kernel)) (by decide +kernel)
theorem w_733 : Cond.fieldLink RX6 28 "Pagerloom$Rule" "lastRise" "I" ∈ WT := WT_in (List.mem_of_getElem? (i := 733) (by decide +kernel)) (by decide +kernel)
theorem w_716 : Cond.fieldLink RX6 31 "Pagerloom$Rule" "question" "LPagerloom$Node;" ∈ WT := WT_in (List.mem_of_getElem? (i := 716) (by decide +kernel)) (by decide +kernel)
theorem w_718 : Cond.fieldLink RX6 35 "Pagerloom$Rule" "owner" "I" ∈ WT := WT_in (List.mem_of_getElem? (i := 718) (by decide +kernel)) (by decide +kernel)
theorem w_720 : Cond.fieldLink RX6 38 "Pagerloom$Rule" "window" "I" ∈ WT := WT_in (List.mem_of_getElem? (i := 720) (by decide +kernel)) (by decide +kernel)
theorem w_723 : Cond.fieldLink RX6 44 "Pagerloom$Rule" "madeIn" "I" ∈ WT := WT_in (List.mem_of_getElem? (i := 723) (by decide +kernel)) (by decide +kernel)
theorem w_712 : Cond.methodLink RX10 210 yX6_init ∈ WT := WT_in (List.mem_of_getElem? (i := 712) (by decide +kernel)) (by decide +kernel)
theorem w_713 : Cond.instanceMethod yX6_init ∈ WT := WT_in (List.mem_of_getElem? (i := 713) (by decide +kernel)) (by decide +kernel)
theorem w_714 : Cond.code yX6_init cX6_init 6 none ∈ WT := WT_in (List.mem_of_getElem? (i := 714) (by decide +kernel)) (by decide +kernel)
theorem w_726 : Cond.fieldLink RX10 225 "Pagerloom$Rule" "lastHour" "I" ∈ WT := WT_in (List.mem_of_getElem? (i := 726) (by decide +kernel)) (by decide +kernel)
theorem w_730 : Cond.fieldLink RX10 231 "Pagerloom$Rule" "silences" "I" ∈ WT := WT_in (List.mem_of_getElem? (i := 730) (by decide +kernel)) (by decide +kernel)
theorem w_770 : Cond.methodLink RX10 236 yX6_addSilence ∈ WT := WT_in (List.mem_of_getElem? (i := 770) (by decide +kernel)) (by decide +kernel)
theorem w_771 : Cond.instanceMethod yX6_addSilence ∈ WT := WT_in (List.mem_of_getElem? (i := 771) (by decide +kernel)) (by decide +kernel)
theorem w_772 : Cond.selects RX6 yX6_addSilence yX6_addSilence ∈ WT := WT_in (List.mem_of_getElem? (i := 772) (by decide +kernel)) (by decide +kernel)
theorem w_773 : Cond.code yX6_addSilence cX6_addSilence 3 none ∈ WT := WT_in (List.mem_of_getElem? (i := 773) (by decide +kernel)) (by decide +kernel)
theorem w_87 : Cond.fieldLink RX10 243 "Pagerloom$Logs" "picks" "I" ∈ WT := WT_in (List.mem_of_getElem? (i := 87) (by decide +kernel)) (by decide +kernel)
theorem w_724 : Cond.fieldLink RX10 246 "Pagerloom$Rule" "madeIn" "I" ∈ WT := WT_in (List.mem_of_getElem? (i := 724) (by decide +kernel)) (by decide +kernel)
theorem w_153 : Cond.fieldLink RX10 263 "Pagerloom$Alarms" "hours" "[I" ∈ WT := WT_in (List.mem_of_getElem? (i := 153) (by decide +kernel)) (by decide +kernel)
theorem w_783 : Cond.methodLink RX10 266 yX0_waits ∈ WT := WT_in (List.mem_of_getElem? (i := 783) (by decide +kernel)) (by decide +kernel)
theorem w_784 : Cond.instanceMethod yX0_waits ∈ WT := WT_in (List.mem_of_getElem? (i := 784) (by decide +kernel)) (by decide +kernel)
theorem w_785 : Cond.selects RX0 yX0_waits yX0_waits ∈ WT := WT_in (List.mem_of_getElem? (i := 785) (by decide +kernel)) (by decide +kernel)
theorem w_786 : Cond.code yX0_waits cX0_waits 2 (some .boolean) ∈ WT := WT_in (List.mem_of_getElem? (i := 786) (by decide +kernel)) (by decide +kernel)
theorem w_157 : Cond.fieldLink RX10 277 "Pagerloom$Alarms" "wokenIn" "[I" ∈ WT := WT_in (List.mem_of_getElem? (i := 157) (by decide +kernel)) (by decide +kernel)
theorem w_846 : Cond.classLink RX10 272 "java/util/NoSuchElementException" ∈ WT := WT_in (List.mem_of_getElem? (i := 846) (by decide +kernel)) (by decide +kernel)
theorem w_55 : Cond.initialized "java/util/NoSuchElementException" ∈ WT := WT_in (List.mem_of_getElem? (i := 55) (by decide +kernel)) (by decide +kernel)
theorem w_159 : Cond.fieldLink RX10 280 "Pagerloom$Alarms" "isAnswered" "[Z" ∈ WT := WT_in (List.mem_of_getElem? (i := 159) (by decide +kernel)) (by decide +kernel)
theorem w_128 : Cond.fieldLink RX10 293 "Pagerloom$Rota" "debts" "I" ∈ WT := WT_in (List.mem_of_getElem? (i := 128) (by decide +kernel)) (by decide +kernel)
theorem w_788 : Cond.methodLink RX10 286 yX10_isNight ∈ WT := WT_in (List.mem_of_getElem? (i := 788) (by decide +kernel)) (by decide +kernel)
theorem w_789 : Cond.methodLink RX10 289 yX10_oweForAlarm ∈ WT := WT_in (List.mem_of_getElem? (i := 789) (by decide +kernel)) (by decide +kernel)
theorem w_791 : Cond.instanceMethod yX10_oweForAlarm ∈ WT := WT_in (List.mem_of_getElem? (i := 791) (by decide +kernel)) (by decide +kernel)
theorem w_21 : Cond.selects RX10 yX10_oweForAlarm yX10_oweForAlarm ∈ WT := WT_in (List.mem_of_getElem? (i := 21) (by decide +kernel)) (by decide +kernel)
theorem w_792 : Cond.code yX10_oweForAlarm cX10_oweForAlarm 4 none ∈ WT := WT_in (List.mem_of_getElem? (i := 792) (by decide +kernel)) (by decide +kernel)
theorem w_objcode : Cond.code objectInit ⟨#[0xb1]⟩ 1 none ∈ WT := WT_in (List.mem_of_getElem? (i := 63) (by decide +kernel)) (by decide +kernel)
theorem hdV_X9_valueOf : yX9_valueOf.cls = RX9 ∧ yX9_valueOf.cls ≠ "java/lang/invoke/MethodHandle" ∧ yX9_valueOf.cls ≠ "java/lang/invoke/VarHandle" ∧ (parseMethodDescriptor yX9_valueOf.desc).map (fun d => d.parameters.length) = some 4 := by decide +kernel
theorem hdV_X9_gathered : yX9_gathered.cls = RX9 ∧ yX9_gathered.cls ≠ "java/lang/invoke/MethodHandle" ∧ yX9_gathered.cls ≠ "java/lang/invoke/VarHandle" ∧ (parseMethodDescriptor yX9_gathered.desc).map (fun d => d.parameters.length) = some 3 := by decide +kernel
theorem hdV_X4_readUnit : yX4_readUnit.cls = RX4 ∧ yX4_readUnit.cls ≠ "java/lang/invoke/MethodHandle" ∧ yX4_readUnit.cls ≠ "java/lang/invoke/VarHandle" ∧ (parseMethodDescriptor yX4_readUnit.desc).map (fun d => d.parameters.length) = some 1 := by decide +kernel
theorem hdS_X4_isSignOf : yX4_isSignOf.cls ≠ "java/lang/invoke/MethodHandle" ∧ yX4_isSignOf.cls ≠ "java/lang/invoke/VarHandle" ∧ (parseMethodDescriptor yX4_isSignOf.desc).map (fun d => d.parameters.length) = some 2 := by decide +kernel
theorem hdS_X3_init : yX3_init.cls ≠ "java/lang/invoke/MethodHandle" ∧ yX3_init.cls ≠ "java/lang/invoke/VarHandle" ∧ (parseMethodDescriptor yX3_init.desc).map (fun d => d.parameters.length) = some 4 := by decide +kernel
theorem hdV_X4_readTerm : yX4_readTerm.cls = RX4 ∧ yX4_readTerm.cls ≠ "java/lang/invoke/MethodHandle" ∧ yX4_readTerm.cls ≠ "java/lang/invoke/VarHandle" ∧ (parseMethodDescriptor yX4_readTerm.desc).map (fun d => d.parameters.length) = some 1 := by decide +kernel
theorem hdV_X4_readChain : yX4_readChain.cls = RX4 ∧ yX4_readChain.cls ≠ "java/lang/invoke/MethodHandle" ∧ yX4_readChain.cls ≠ "java/lang/invoke/VarHandle" ∧ (parseMethodDescriptor yX4_readChain.desc).map (fun d => d.parameters.length) = some 2 := by decide +kernel
theorem hdS_X4_before : yX4_before.cls ≠ "java/lang/invoke/MethodHandle" ∧ yX4_before.cls ≠ "java/lang/invoke/VarHandle" ∧ (parseMethodDescriptor yX4_before.desc).map (fun d => d.parameters.length) = some 2 := by decide +kernel
theorem hdV_X4_closed : yX4_closed.cls = RX4 ∧ yX4_closed.cls ≠ "java/lang/invoke/MethodHandle" ∧ yX4_closed.cls ≠ "java/lang/invoke/VarHandle" ∧ (parseMethodDescriptor yX4_closed.desc).map (fun d => d.parameters.length) = some 1 := by decide +kernel
theorem hdV_X4_readNumber : yX4_readNumber.cls = RX4 ∧ yX4_readNumber.cls ≠ "java/lang/invoke/MethodHandle" ∧ yX4_readNumber.cls ≠ "java/lang/invoke/VarHandle" ∧ (parseMethodDescriptor yX4_readNumber.desc).map (fun d => d.parameters.length) = some 0 := by decide +kernel
theorem hdV_X4_readAggregate : yX4_readAggregate.cls = RX4 ∧ yX4_readAggregate.cls ≠ "java/lang/invoke/MethodHandle" ∧ yX4_readAggregate.cls ≠ "java/lang/invoke/VarHandle" ∧ (parseMethodDescriptor yX4_readAggregate.desc).map (fun d => d.parameters.length) = some 1 := by decide +kernel
theorem hdV_X4_readField : yX4_readField.cls = RX4 ∧ yX4_readField.cls ≠ "java/lang/invoke/MethodHandle" ∧ yX4_readField.cls ≠ "java/lang/invoke/VarHandle" ∧ (parseMethodDescriptor yX4_readField.desc).map (fun d => d.parameters.length) = some 0 := by decide +kernel
theorem hdV_X4_readComparison : yX4_readComparison.cls = RX4 ∧ yX4_readComparison.cls ≠ "java/lang/invoke/MethodHandle" ∧ yX4_readComparison.cls ≠ "java/lang/invoke/VarHandle" ∧ (parseMethodDescriptor yX4_readComparison.desc).map (fun d => d.parameters.length) = some 0 := by decide +kernel
theorem hdV_X4_read : yX4_read.cls = RX4 ∧ yX4_read.cls ≠ "java/lang/invoke/MethodHandle" ∧ yX4_read.cls ≠ "java/lang/invoke/VarHandle" ∧ (parseMethodDescriptor yX4_read.desc).map (fun d => d.parameters.length) = some 2 := by decide +kernel
theorem hdV_X4_place : yX4_place.cls = RX4 ∧ yX4_place.cls ≠ "java/lang/invoke/MethodHandle" ∧ yX4_place.cls ≠ "java/lang/invoke/VarHandle" ∧ (parseMethodDescriptor yX4_place.desc).map (fun d => d.parameters.length) = some 0 := by decide +kernel
theorem hdV_X9_run : yX9_run.cls = RX9 ∧ yX9_run.cls ≠ "java/lang/invoke/MethodHandle" ∧ yX9_run.cls ≠ "java/lang/invoke/VarHandle" ∧ (parseMethodDescriptor yX9_run.desc).map (fun d => d.parameters.length) = some 2 := by decide +kernel
theorem hdV_X1_turn : yX1_turn.cls = RX1 ∧ yX1_turn.cls ≠ "java/lang/invoke/MethodHandle" ∧ yX1_turn.cls ≠ "java/lang/invoke/VarHandle" ∧ (parseMethodDescriptor yX1_turn.desc).map (fun d => d.parameters.length) = some 2 := by decide +kernel
theorem hdV_X7_run : yX7_run.cls = RX7 ∧ yX7_run.cls ≠ "java/lang/invoke/MethodHandle" ∧ yX7_run.cls ≠ "java/lang/invoke/VarHandle" ∧ (parseMethodDescriptor yX7_run.desc).map (fun d => d.parameters.length) = some 3 := by decide +kernel
theorem hdV_X10_isDue : yX10_isDue.cls = RX10 ∧ yX10_isDue.cls ≠ "java/lang/invoke/MethodHandle" ∧ yX10_isDue.cls ≠ "java/lang/invoke/VarHandle" ∧ (parseMethodDescriptor yX10_isDue.desc).map (fun d => d.parameters.length) = some 3 := by decide +kernel
theorem hdV_X0_add : yX0_add.cls = RX0 ∧ yX0_add.cls ≠ "java/lang/invoke/MethodHandle" ∧ yX0_add.cls ≠ "java/lang/invoke/VarHandle" ∧ (parseMethodDescriptor yX0_add.desc).map (fun d => d.parameters.length) = some 2 := by decide +kernel
theorem hdV_X10_comeHour : yX10_comeHour.cls = RX10 ∧ yX10_comeHour.cls ≠ "java/lang/invoke/MethodHandle" ∧ yX10_comeHour.cls ≠ "java/lang/invoke/VarHandle" ∧ (parseMethodDescriptor yX10_comeHour.desc).map (fun d => d.parameters.length) = some 0 := by decide +kernel
theorem hdV_X2_add : yX2_add.cls = RX2 ∧ yX2_add.cls ≠ "java/lang/invoke/MethodHandle" ∧ yX2_add.cls ≠ "java/lang/invoke/VarHandle" ∧ (parseMethodDescriptor yX2_add.desc).map (fun d => d.parameters.length) = some 5 := by decide +kernel
theorem hdV_X5_turnOff : yX5_turnOff.cls = RX5 ∧ yX5_turnOff.cls ≠ "java/lang/invoke/MethodHandle" ∧ yX5_turnOff.cls ≠ "java/lang/invoke/VarHandle" ∧ (parseMethodDescriptor yX5_turnOff.desc).map (fun d => d.parameters.length) = some 2 := by decide +kernel
theorem hdV_X5_give : yX5_give.cls = RX5 ∧ yX5_give.cls ≠ "java/lang/invoke/MethodHandle" ∧ yX5_give.cls ≠ "java/lang/invoke/VarHandle" ∧ (parseMethodDescriptor yX5_give.desc).map (fun d => d.parameters.length) = some 2 := by decide +kernel
theorem hdV_X5_nightsOf : yX5_nightsOf.cls = RX5 ∧ yX5_nightsOf.cls ≠ "java/lang/invoke/MethodHandle" ∧ yX5_nightsOf.cls ≠ "java/lang/invoke/VarHandle" ∧ (parseMethodDescriptor yX5_nightsOf.desc).map (fun d => d.parameters.length) = some 1 := by decide +kernel
theorem hdV_X5_debtsOf : yX5_debtsOf.cls = RX5 ∧ yX5_debtsOf.cls ≠ "java/lang/invoke/MethodHandle" ∧ yX5_debtsOf.cls ≠ "java/lang/invoke/VarHandle" ∧ (parseMethodDescriptor yX5_debtsOf.desc).map (fun d => d.parameters.length) = some 2 := by decide +kernel
theorem hdS_X6_init : yX6_init.cls ≠ "java/lang/invoke/MethodHandle" ∧ yX6_init.cls ≠ "java/lang/invoke/VarHandle" ∧ (parseMethodDescriptor yX6_init.desc).map (fun d => d.parameters.length) = some 5 := by decide +kernel
theorem hdV_X6_addSilence : yX6_addSilence.cls = RX6 ∧ yX6_addSilence.cls ≠ "java/lang/invoke/MethodHandle" ∧ yX6_addSilence.cls ≠ "java/lang/invoke/VarHandle" ∧ (parseMethodDescriptor yX6_addSilence.desc).map (fun d => d.parameters.length) = some 2 := by decide +kernel
theorem hdV_X0_waits : yX0_waits.cls = RX0 ∧ yX0_waits.cls ≠ "java/lang/invoke/MethodHandle" ∧ yX0_waits.cls ≠ "java/lang/invoke/VarHandle" ∧ (parseMethodDescriptor yX0_waits.desc).map (fun d => d.parameters.length) = some 1 := by decide +kernel
theorem hdV_X10_oweForAlarm : yX10_oweForAlarm.cls = RX10 ∧ yX10_oweForAlarm.cls ≠ "java/lang/invoke/MethodHandle" ∧ yX10_oweForAlarm.cls ≠ "java/lang/invoke/VarHandle" ∧ (parseMethodDescriptor yX10_oweForAlarm.desc).map (fun d => d.parameters.length) = some 1 := by decide +kernel
section CE2
variable {D : DD} {B : Nat} {σ : St}
theorem cp_4 (x : Int32) : cells D B true (sI σ 4 x) = (cells D B true σ).set 0 (.inr (10, ([.ref (B + 1), .int (gI σ 1), .int (gI σ 2), .ref (B + 2), .int (gI σ 4), .ref (B + 3), .ref (B + 12), .ref (B + 18), .ref (B + 24), .ref (B + 26), .ref (B + 30), .ref (B + 34)] : List Value).set 4 (.int x))) := rfl
theorem ca_1 (j : Nat) (x : Int32) : cells D B true (sA σ 1 j x) = (cells D B true σ).set 1 (.inl (D.2 0, 40, .inl (ups (gA σ 1) j x))) := rfl
theorem ca_23 (j : Nat) (x : Int32) : cells D B true (sA σ 23 j x) = (cells D B true σ).set 23 (.inl (D.2 3, 4000, .inl (ups (gA σ 23) j x))) := rfl
theorem ca_2 (j : Nat) (x : Option Nat) : cells D B true (sQ σ 2 j x) = (cells D B true σ).set 2 (.inl (D.2 4, 4, .inr (.inr (.inr (.inr (fun y => (ups (gQ σ 2) j x y).map (B + ·))))))) := rfl
end CE2
def tnames : List String := ["java/lang/RuntimeException", "java/lang/Exception"]
theorem tnames_ok : ∀ n ∈ tnames, Bundle.fit n = true := by decide +kernel
theorem thp_0_82 : vx_atS "Pagerloom" 82 (exN 0) tnames = [47, 381, 390, 395, 398, 400, 382, 383, 62, 63, 384, 389, 396, 416, 371, 417, 373, 418, 375, 385, 387, 377, 412, 413, 415, 377, 458, 459, 460, 406, 363, 406, 407, 408, 409, 365, 409, 410, 411, 412, 367, 457, 448, 449, 450, 392, 451, 452, 453, 454, 380, 379, 455].filterMap (fun i => lw_tbl[i]?) := by decide +kernel
theorem thr_0_82 : ∀ x ∈ vx_atS "Pagerloom" 82 (exN 0) tnames, x ∈ lw_tbl ∧ okX x = true := by
  intro x hx
  have h1 : (vx_atS "Pagerloom" 82 (exN 0) tnames).all okX = true := by decide +kernel
  refine ⟨?_, List.all_eq_true.mp h1 x hx⟩
  rw [thp_0_82] at hx
  obtain ⟨i, -, hi⟩ := List.mem_filterMap.mp hx
  exact List.mem_of_getElem? hi
theorem thg_0_82 (ik : Nat) : ∀ x ∈ Cond.classLink "Pagerloom" ik (exN 0) :: Cond.initialized (exN 0) :: vx_atS "Pagerloom" 82 (exN 0) tnames, vx_ot x = true := by
  intro x hx
  have h1 : (vx_atS "Pagerloom" 82 (exN 0) tnames).all vx_ot = true := by decide +kernel
  rcases List.mem_cons.mp hx with rfl | hx
  · rfl
  · rcases List.mem_cons.mp hx with rfl | hx
    · rfl
    · exact List.all_eq_true.mp h1 x hx
theorem thp_1_89 : vx_atS "Pagerloom" 89 (exN 1) tnames = [47, 381, 390, 395, 398, 400, 382, 383, 62, 63, 384, 389, 396, 416, 371, 417, 373, 418, 375, 385, 387, 377, 412, 413, 415, 377, 474, 475, 476, 406, 363, 406, 407, 408, 409, 365, 409, 410, 411, 412, 367, 473, 464, 465, 466, 393, 467, 468, 469, 470, 380, 379, 471].filterMap (fun i => lw_tbl[i]?) := by decide +kernel
theorem thr_1_89 : ∀ x ∈ vx_atS "Pagerloom" 89 (exN 1) tnames, x ∈ lw_tbl ∧ okX x = true := by
  intro x hx
  have h1 : (vx_atS "Pagerloom" 89 (exN 1) tnames).all okX = true := by decide +kernel
  refine ⟨?_, List.all_eq_true.mp h1 x hx⟩
  rw [thp_1_89] at hx
  obtain ⟨i, -, hi⟩ := List.mem_filterMap.mp hx
  exact List.mem_of_getElem? hi
theorem thg_1_89 (ik : Nat) : ∀ x ∈ Cond.classLink "Pagerloom" ik (exN 1) :: Cond.initialized (exN 1) :: vx_atS "Pagerloom" 89 (exN 1) tnames, vx_ot x = true := by
  intro x hx
  have h1 : (vx_atS "Pagerloom" 89 (exN 1) tnames).all vx_ot = true := by decide +kernel
  rcases List.mem_cons.mp hx with rfl | hx
  · rfl
  · rcases List.mem_cons.mp hx with rfl | hx
    · rfl
    · exact List.all_eq_true.mp h1 x hx
theorem thp_2_166 : vx_atS "Pagerloom" 166 (exN 2) tnames = [47, 381, 390, 395, 398, 400, 382, 383, 62, 63, 384, 389, 396, 416, 371, 417, 373, 418, 375, 385, 387, 377, 412, 413, 415, 377, 403, 404, 405, 406, 363, 406, 407, 408, 409, 365, 409, 410, 411, 412, 367, 402, 360, 361, 368, 369, 370, 372, 374, 376, 380, 379, 378].filterMap (fun i => lw_tbl[i]?) := by decide +kernel
theorem thr_2_166 : ∀ x ∈ vx_atS "Pagerloom" 166 (exN 2) tnames, x ∈ lw_tbl ∧ okX x = true := by
  intro x hx
  have h1 : (vx_atS "Pagerloom" 166 (exN 2) tnames).all okX = true := by decide +kernel
  refine ⟨?_, List.all_eq_true.mp h1 x hx⟩
  rw [thp_2_166] at hx
  obtain ⟨i, -, hi⟩ := List.mem_filterMap.mp hx
  exact List.mem_of_getElem? hi
theorem thg_2_166 (ik : Nat) : ∀ x ∈ Cond.classLink "Pagerloom" ik (exN 2) :: Cond.initialized (exN 2) :: vx_atS "Pagerloom" 166 (exN 2) tnames, vx_ot x = true := by
  intro x hx
  have h1 : (vx_atS "Pagerloom" 166 (exN 2) tnames).all vx_ot = true := by decide +kernel
  rcases List.mem_cons.mp hx with rfl | hx
  · rfl
  · rcases List.mem_cons.mp hx with rfl | hx
    · rfl
    · exact List.all_eq_true.mp h1 x hx
theorem thp_3_276 : nsB "Pagerloom" 276 = [47, 381, 390, 395, 398, 400, 382, 383, 62, 63, 384, 389, 396, 416, 371, 417, 373, 418, 375, 385, 387, 377, 412, 413, 415, 377, 406, 407, 408, 409, 365, 409, 410, 411, 412, 367, 857, 858, 859, 406, 363, 856, 847, 848, 849, 394, 850, 851, 852, 853, 380, 379, 854].filterMap (fun i => lw_tbl[i]?) := by decide +kernel
theorem thr_3_276 : ∀ x ∈ nsB "Pagerloom" 276, x ∈ lw_tbl ∧ okX x = true := by
  intro x hx
  have h1 : (nsB "Pagerloom" 276).all okX = true := by decide +kernel
  refine ⟨?_, List.all_eq_true.mp h1 x hx⟩
  rw [thp_3_276] at hx
  obtain ⟨i, -, hi⟩ := List.mem_filterMap.mp hx
  exact List.mem_of_getElem? hi
theorem thg_3_276 (ik : Nat) : ∀ x ∈ Cond.classLink "Pagerloom" ik nsN :: Cond.initialized nsN :: nsB "Pagerloom" 276, vx_ot x = true := by
  intro x hx
  have h1 : (nsB "Pagerloom" 276).all vx_ot = true := by decide +kernel
  rcases List.mem_cons.mp hx with rfl | hx
  · rfl
  · rcases List.mem_cons.mp hx with rfl | hx
    · rfl
    · exact List.all_eq_true.mp h1 x hx
theorem str_80 : Cond.stringRef "Pagerloom" 80 "sign is out of range" ∈ lw_tbl := List.mem_of_getElem? (i := 456) (by decide +kernel)
theorem str_87 : Cond.stringRef "Pagerloom" 87 "the text is full" ∈ lw_tbl := List.mem_of_getElem? (i := 472) (by decide +kernel)
theorem str_102 : Cond.stringRef "Pagerloom" 102 "from or to is out of range" ∈ lw_tbl := List.mem_of_getElem? (i := 768) (by decide +kernel)
theorem str_104 : Cond.stringRef "Pagerloom" 104 "the text is no question" ∈ lw_tbl := List.mem_of_getElem? (i := 709) (by decide +kernel)
theorem str_132 : Cond.stringRef "Pagerloom" 132 "hours is out of range" ∈ lw_tbl := List.mem_of_getElem? (i := 484) (by decide +kernel)
theorem str_134 : Cond.stringRef "Pagerloom" 134 "it would be later than the last hour" ∈ lw_tbl := List.mem_of_getElem? (i := 485) (by decide +kernel)
theorem str_142 : Cond.stringRef "Pagerloom" 142 "part or level is out of range" ∈ lw_tbl := List.mem_of_getElem? (i := 596) (by decide +kernel)
theorem str_144 : Cond.stringRef "Pagerloom" 144 "value or hour is out of range" ∈ lw_tbl := List.mem_of_getElem? (i := 597) (by decide +kernel)
theorem str_147 : Cond.stringRef "Pagerloom" 147 "there are as many logs as can be" ∈ lw_tbl := List.mem_of_getElem? (i := 598) (by decide +kernel)
theorem str_156 : Cond.stringRef "Pagerloom" 156 "there are as many people as can be" ∈ lw_tbl := List.mem_of_getElem? (i := 611) (by decide +kernel)
theorem str_164 : Cond.stringRef "Pagerloom" 164 "no such person" ∈ lw_tbl := List.mem_of_getElem? (i := 620) (by decide +kernel)
theorem str_170 : Cond.stringRef "Pagerloom" 170 "shift is out of range" ∈ lw_tbl := List.mem_of_getElem? (i := 621) (by decide +kernel)
theorem str_180 : Cond.stringRef "Pagerloom" 180 "shift or other is out of range, or the same" ∈ lw_tbl := List.mem_of_getElem? (i := 999) (by decide +kernel)
theorem str_186 : Cond.stringRef "Pagerloom" 186 "nobody, or the same person, is planned for both" ∈ lw_tbl := List.mem_of_getElem? (i := 1000) (by decide +kernel)
theorem str_188 : Cond.stringRef "Pagerloom" 188 "one of the two is off in the shift it would get" ∈ lw_tbl := List.mem_of_getElem? (i := 1001) (by decide +kernel)
theorem str_206 : Cond.stringRef "Pagerloom" 206 "window or rest is out of range" ∈ lw_tbl := List.mem_of_getElem? (i := 631) (by decide +kernel)
theorem str_208 : Cond.stringRef "Pagerloom" 208 "there are as many rules as can be" ∈ lw_tbl := List.mem_of_getElem? (i := 710) (by decide +kernel)
theorem str_217 : Cond.stringRef "Pagerloom" 217 "no such rule" ∈ lw_tbl := List.mem_of_getElem? (i := 401) (by decide +kernel)
theorem str_223 : Cond.stringRef "Pagerloom" 223 "the rule was dropped" ∈ lw_tbl := List.mem_of_getElem? (i := 762) (by decide +kernel)
theorem str_234 : Cond.stringRef "Pagerloom" 234 "the rule has as many silences as can be" ∈ lw_tbl := List.mem_of_getElem? (i := 769) (by decide +kernel)
theorem str_259 : Cond.stringRef "Pagerloom" 259 "no such alarm" ∈ lw_tbl := List.mem_of_getElem? (i := 782) (by decide +kernel)
theorem str_274 : Cond.stringRef "Pagerloom" 274 "the alarm waits" ∈ lw_tbl := List.mem_of_getElem? (i := 855) (by decide +kernel)
theorem str_284 : Cond.stringRef "Pagerloom" 284 "the alarm waits, or was answered" ∈ lw_tbl := List.mem_of_getElem? (i := 787) (by decide +kernel)
theorem lts {Γ : Ga} {D : DD} {B : Nat} {w : Bool} {nL : Nat} {Q : State → Prop} {k n : Nat} {σ1 : St} {pc : Nat} {lv : List (Nat × Value)} {st : List Value} {α : Type} {G : St → α} {z : α} (hf : lt σ1 G = z) (kk : ∀ s1, G s1 = z → V Γ D B w nL Q k n s1 pc lv st) : V Γ D B w nL Q k n σ1 pc lv st := kk σ1 hf
