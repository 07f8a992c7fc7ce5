/-! rows of V, an instruction each -/
section ROWS
variable {Γ : Ga} {D : DD} {B : Nat} {w : Bool} {own : String} {cc : ByteArray} {nL : Nat} {rm : Room} {Q : State → Prop} {k n : Nat} {σ : St} {pc : Nat} {lv : List (Nat × Value)} {st : List Value}

theorem r_iconst (X : Cx Γ own cc nL D B rm) {i : Int} {v : Int32} (d : decode cc pc = .ok (.iconst i, 1)) (hv : Int32.ofInt i = v) (kk : V Γ D B w nL Q k n σ (pc + 1) lv (.int v :: st)) : V Γ D B w nL Q k n σ pc lv st :=
  fun H locs ls cs ss hP hS hl hk hn => lv_iconst X.1 X.2.1 d hv (kk H locs ls cs ss hP hS hl hk hn)
theorem r_bipush (X : Cx Γ own cc nL D B rm) {i : Int} {v : Int32} (d : decode cc pc = .ok (.bipush i, 2)) (hv : (Int8.ofInt i).toInt32 = v) (kk : V Γ D B w nL Q k n σ (pc + 2) lv (.int v :: st)) : V Γ D B w nL Q k n σ pc lv st :=
  fun H locs ls cs ss hP hS hl hk hn => lv_bipush X.1 X.2.1 d hv (kk H locs ls cs ss hP hS hl hk hn)
theorem r_sipush (X : Cx Γ own cc nL D B rm) {i : Int} {v : Int32} (d : decode cc pc = .ok (.sipush i, 3)) (hv : (Int16.ofInt i).toInt32 = v) (kk : V Γ D B w nL Q k n σ (pc + 3) lv (.int v :: st)) : V Γ D B w nL Q k n σ pc lv st :=
  fun H locs ls cs ss hP hS hl hk hn => lv_sipush X.1 X.2.1 d hv (kk H locs ls cs ss hP hS hl hk hn)
theorem r_ldc (X : Cx Γ own cc nL D B rm) {i : Nat} {v : Int32} (hc : Cond.constant own i v ∈ WT) (d : decode cc pc = .ok (.ldc i, 2)) (kk : V Γ D B w nL Q k n σ (pc + 2) lv (.int v :: st)) : V Γ D B w nL Q k n σ pc lv st :=
  fun H locs ls cs ss hP hS hl hk hn => lv_ldc X.1 X.2.1 X.2.2.2.1 (X.w hc) d (kk H locs ls cs ss hP hS hl hk hn)
theorem r_ldcw (X : Cx Γ own cc nL D B rm) {i : Nat} {v : Int32} (hc : Cond.constant own i v ∈ WT) (d : decode cc pc = .ok (.ldc_w i, 3)) (kk : V Γ D B w nL Q k n σ (pc + 3) lv (.int v :: st)) : V Γ D B w nL Q k n σ pc lv st :=
  fun H locs ls cs ss hP hS hl hk hn => lv_ldcw X.1 X.2.1 X.2.2.2.1 (X.w hc) d (kk H locs ls cs ss hP hS hl hk hn)
theorem r_lconst (X : Cx Γ own cc nL D B rm) {i : Fin 2} {v : Int64} (d : decode cc pc = .ok (.lconst i, 1)) (hv : Int64.ofNat (i : Nat) = v) (kk : V Γ D B w nL Q k n σ (pc + 1) lv (.long v :: st)) : V Γ D B w nL Q k n σ pc lv st :=
  fun H locs ls cs ss hP hS hl hk hn => lv_lconst X.1 X.2.1 d hv (kk H locs ls cs ss hP hS hl hk hn)
theorem r_iload_n (X : Cx Γ own cc nL D B rm) {i : Fin 4} {x : Int32} (d : decode cc pc = .ok (.iload_n i, 1)) (j : Nat) (hj : lv[j]? = some ((i : Nat), .int x)) (kk : V Γ D B w nL Q k n σ (pc + 1) lv (.int x :: st)) : V Γ D B w nL Q k n σ pc lv st :=
  fun H locs ls cs ss hP hS hl hk hn => lv_iload_n X.1 X.2.1 d rfl (lv_at hl j hj) (kk H locs ls cs ss hP hS hl hk hn)
theorem r_iload (X : Cx Γ own cc nL D B rm) {i : Nat} {x : Int32} (d : decode cc pc = .ok (.iload i, 2)) (j : Nat) (hj : lv[j]? = some (i, .int x)) (kk : V Γ D B w nL Q k n σ (pc + 2) lv (.int x :: st)) : V Γ D B w nL Q k n σ pc lv st :=
  fun H locs ls cs ss hP hS hl hk hn => lv_iload X.1 X.2.1 d (lv_at hl j hj) (kk H locs ls cs ss hP hS hl hk hn)
theorem r_lload_n (X : Cx Γ own cc nL D B rm) {i : Fin 4} {x : Int64} (d : decode cc pc = .ok (.lload_n i, 1)) (j : Nat) (hj : lv[j]? = some ((i : Nat), .long x)) (kk : V Γ D B w nL Q k n σ (pc + 1) lv (.long x :: st)) : V Γ D B w nL Q k n σ pc lv st :=
  fun H locs ls cs ss hP hS hl hk hn => lv_lload_n X.1 X.2.1 d rfl (lv_at hl j hj) (kk H locs ls cs ss hP hS hl hk hn)
theorem r_lload (X : Cx Γ own cc nL D B rm) {i : Nat} {x : Int64} (d : decode cc pc = .ok (.lload i, 2)) (j : Nat) (hj : lv[j]? = some (i, .long x)) (kk : V Γ D B w nL Q k n σ (pc + 2) lv (.long x :: st)) : V Γ D B w nL Q k n σ pc lv st :=
  fun H locs ls cs ss hP hS hl hk hn => lv_lload X.1 X.2.1 d (lv_at hl j hj) (kk H locs ls cs ss hP hS hl hk hn)
theorem r_aload_n (X : Cx Γ own cc nL D B rm) {i : Fin 4} {x : Option Nat} (d : decode cc pc = .ok (.aload_n i, 1)) (j : Nat) (hj : lv[j]? = some ((i : Nat), rfB B x)) (kk : V Γ D B w nL Q k n σ (pc + 1) lv (rfB B x :: st)) : V Γ D B w nL Q k n σ pc lv st := by
  intro H locs ls cs ss hP hS hl hk hn
  have h := lv_at hl j hj
  cases x with
  | none => exact lv_aload_nN X.1 X.2.1 d rfl h (kk H locs ls cs ss hP hS hl hk hn)
  | some q => exact lv_aload_n X.1 X.2.1 d rfl h (kk H locs ls cs ss hP hS hl hk hn)
theorem r_aload (X : Cx Γ own cc nL D B rm) {i : Nat} {x : Option Nat} (d : decode cc pc = .ok (.aload i, 2)) (j : Nat) (hj : lv[j]? = some (i, rfB B x)) (kk : V Γ D B w nL Q k n σ (pc + 2) lv (rfB B x :: st)) : V Γ D B w nL Q k n σ pc lv st := by
  intro H locs ls cs ss hP hS hl hk hn
  have h := lv_at hl j hj
  cases x with
  | none => exact lv_aloadN X.1 X.2.1 d h (kk H locs ls cs ss hP hS hl hk hn)
  | some q => exact lv_aload X.1 X.2.1 d h (kk H locs ls cs ss hP hS hl hk hn)
theorem r_istore_n (X : Cx Γ own cc nL D B rm) {i : Fin 4} {x : Int32} {lv' : List (Nat × Value)} (d : decode cc pc = .ok (.istore_n i, 1)) (hi : (i : Nat) < nL) (ks : List Nat) (hp : lv_pick (((i : Nat), Value.int x) :: lv.filter (fun q => !(q.1 == (i : Nat)) && !(q.1 + 1 == (i : Nat) && q.2.category == 2))) ks = lv') (kk : V Γ D B w nL Q k n σ (pc + 1) lv' st) : V Γ D B w nL Q k n σ pc lv (.int x :: st) :=
  fun H locs ls cs ss hP hS hl hk hn => lv_istore_n X.1 X.2.1 d rfl hl hi rfl (fun ls' hl' => kk H locs ls' cs ss hP hS (lv_sub hl' ks hp) hk hn)
theorem r_istore (X : Cx Γ own cc nL D B rm) {i : Nat} {x : Int32} {lv' : List (Nat × Value)} (d : decode cc pc = .ok (.istore i, 2)) (hi : i < nL) (ks : List Nat) (hp : lv_pick ((i, Value.int x) :: lv.filter (fun q => !(q.1 == i) && !(q.1 + 1 == i && q.2.category == 2))) ks = lv') (kk : V Γ D B w nL Q k n σ (pc + 2) lv' st) : V Γ D B w nL Q k n σ pc lv (.int x :: st) :=
  fun H locs ls cs ss hP hS hl hk hn => lv_istore X.1 X.2.1 d hl hi rfl (fun ls' hl' => kk H locs ls' cs ss hP hS (lv_sub hl' ks hp) hk hn)
theorem r_lstore_n (X : Cx Γ own cc nL D B rm) {i : Fin 4} {x : Int64} {lv' : List (Nat × Value)} (d : decode cc pc = .ok (.lstore_n i, 1)) (hi : (i : Nat) + 1 < nL) (ks : List Nat) (hp : lv_pick (((i : Nat), Value.long x) :: lv.filter (fun q => !(q.1 == (i : Nat)) && (!(q.1 == (i : Nat) + 1) && !(q.1 + 1 == (i : Nat) && q.2.category == 2)))) ks = lv') (kk : V Γ D B w nL Q k n σ (pc + 1) lv' st) : V Γ D B w nL Q k n σ pc lv (.long x :: st) :=
  fun H locs ls cs ss hP hS hl hk hn => lv_lstore_n X.1 X.2.1 d rfl hl hi rfl (fun ls' hl' => kk H locs ls' cs ss hP hS (lv_sub hl' ks hp) hk hn)
theorem r_lstore (X : Cx Γ own cc nL D B rm) {i : Nat} {x : Int64} {lv' : List (Nat × Value)} (d : decode cc pc = .ok (.lstore i, 2)) (hi : i + 1 < nL) (ks : List Nat) (hp : lv_pick ((i, Value.long x) :: lv.filter (fun q => !(q.1 == i) && (!(q.1 == i + 1) && !(q.1 + 1 == i && q.2.category == 2)))) ks = lv') (kk : V Γ D B w nL Q k n σ (pc + 2) lv' st) : V Γ D B w nL Q k n σ pc lv (.long x :: st) :=
  fun H locs ls cs ss hP hS hl hk hn => lv_lstore X.1 X.2.1 d hl hi rfl (fun ls' hl' => kk H locs ls' cs ss hP hS (lv_sub hl' ks hp) hk hn)
theorem r_astore_n (X : Cx Γ own cc nL D B rm) {i : Fin 4} {x : Option Nat} {lv' : List (Nat × Value)} (d : decode cc pc = .ok (.astore_n i, 1)) (hi : (i : Nat) < nL) (ks : List Nat) (hp : lv_pick (((i : Nat), rfB B x) :: lv.filter (fun q => !(q.1 == (i : Nat)) && !(q.1 + 1 == (i : Nat) && q.2.category == 2))) ks = lv') (kk : V Γ D B w nL Q k n σ (pc + 1) lv' st) : V Γ D B w nL Q k n σ pc lv (rfB B x :: st) := by
  intro H locs ls cs ss hP hS hl hk hn
  cases x with
  | none => exact lv_astore_nN X.1 X.2.1 d rfl hl hi rfl (fun ls' hl' => kk H locs ls' cs ss hP hS (lv_sub hl' ks hp) hk hn)
  | some q => exact lv_astore_n X.1 X.2.1 d rfl hl hi rfl (fun ls' hl' => kk H locs ls' cs ss hP hS (lv_sub hl' ks hp) hk hn)
theorem r_astore (X : Cx Γ own cc nL D B rm) {i : Nat} {x : Option Nat} {lv' : List (Nat × Value)} (d : decode cc pc = .ok (.astore i, 2)) (hi : i < nL) (ks : List Nat) (hp : lv_pick ((i, rfB B x) :: lv.filter (fun q => !(q.1 == i) && !(q.1 + 1 == i && q.2.category == 2))) ks = lv') (kk : V Γ D B w nL Q k n σ (pc + 2) lv' st) : V Γ D B w nL Q k n σ pc lv (rfB B x :: st) := by
  intro H locs ls cs ss hP hS hl hk hn
  cases x with
  | none => exact lv_astoreN X.1 X.2.1 d hl hi rfl (fun ls' hl' => kk H locs ls' cs ss hP hS (lv_sub hl' ks hp) hk hn)
  | some q => exact lv_astore X.1 X.2.1 d hl hi rfl (fun ls' hl' => kk H locs ls' cs ss hP hS (lv_sub hl' ks hp) hk hn)
theorem r_iinc (X : Cx Γ own cc nL D B rm) {i : Nat} {m : Int} {x v : Int32} {lv' : List (Nat × Value)} (d : decode cc pc = .ok (.iinc i m, 3)) (j : Nat) (hj : lv[j]? = some (i, .int x)) (hv : x + Int32.ofInt m = v) (hi : i < nL) (ks : List Nat) (hp : lv_pick ((i, Value.int v) :: lv.filter (fun q => !(q.1 == i) && !(q.1 + 1 == i && q.2.category == 2))) ks = lv') (kk : V Γ D B w nL Q k n σ (pc + 3) lv' st) : V Γ D B w nL Q k n σ pc lv st :=
  fun H locs ls cs ss hP hS hl hk hn => lv_iinc X.1 X.2.1 d hl hj hv hi rfl (fun ls' hl' => kk H locs ls' cs ss hP hS (lv_sub hl' ks hp) hk hn)
theorem r_forget {lv' : List (Nat × Value)} (ks : List Nat) (hp : lv_pick lv ks = lv') (kk : V Γ D B w nL Q k n σ pc lv' st) : V Γ D B w nL Q k n σ pc lv st :=
  fun H locs ls cs ss hP hS hl hk hn => kk H locs ls cs ss hP hS (lv_sub hl ks hp) hk hn
theorem r_iadd (X : Cx Γ own cc nL D B rm) {x y : Int32} (d : decode cc pc = .ok (.iadd, 1)) (kk : V Γ D B w nL Q k n σ (pc + 1) lv (.int (x + y) :: st)) : V Γ D B w nL Q k n σ pc lv (.int y :: .int x :: st) :=
  fun H locs ls cs ss hP hS hl hk hn => lv_iadd X.1 X.2.1 d (kk H locs ls cs ss hP hS hl hk hn)
theorem r_isub (X : Cx Γ own cc nL D B rm) {x y : Int32} (d : decode cc pc = .ok (.isub, 1)) (kk : V Γ D B w nL Q k n σ (pc + 1) lv (.int (x - y) :: st)) : V Γ D B w nL Q k n σ pc lv (.int y :: .int x :: st) :=
  fun H locs ls cs ss hP hS hl hk hn => lv_isub X.1 X.2.1 d (kk H locs ls cs ss hP hS hl hk hn)
theorem r_imul (X : Cx Γ own cc nL D B rm) {x y : Int32} (d : decode cc pc = .ok (.imul, 1)) (kk : V Γ D B w nL Q k n σ (pc + 1) lv (.int (x * y) :: st)) : V Γ D B w nL Q k n σ pc lv (.int y :: .int x :: st) :=
  fun H locs ls cs ss hP hS hl hk hn => lv_imul X.1 X.2.1 d (kk H locs ls cs ss hP hS hl hk hn)
theorem r_iand (X : Cx Γ own cc nL D B rm) {x y : Int32} (d : decode cc pc = .ok (.iand, 1)) (kk : V Γ D B w nL Q k n σ (pc + 1) lv (.int (x &&& y) :: st)) : V Γ D B w nL Q k n σ pc lv (.int y :: .int x :: st) :=
  fun H locs ls cs ss hP hS hl hk hn => lv_iand X.1 X.2.1 d (kk H locs ls cs ss hP hS hl hk hn)
theorem r_ior (X : Cx Γ own cc nL D B rm) {x y : Int32} (d : decode cc pc = .ok (.ior, 1)) (kk : V Γ D B w nL Q k n σ (pc + 1) lv (.int (x ||| y) :: st)) : V Γ D B w nL Q k n σ pc lv (.int y :: .int x :: st) :=
  fun H locs ls cs ss hP hS hl hk hn => lv_ior X.1 X.2.1 d (kk H locs ls cs ss hP hS hl hk hn)
theorem r_ixor (X : Cx Γ own cc nL D B rm) {x y : Int32} (d : decode cc pc = .ok (.ixor, 1)) (kk : V Γ D B w nL Q k n σ (pc + 1) lv (.int (x ^^^ y) :: st)) : V Γ D B w nL Q k n σ pc lv (.int y :: .int x :: st) :=
  fun H locs ls cs ss hP hS hl hk hn => lv_ixor X.1 X.2.1 d (kk H locs ls cs ss hP hS hl hk hn)
theorem r_ladd (X : Cx Γ own cc nL D B rm) {x y : Int64} (d : decode cc pc = .ok (.ladd, 1)) (kk : V Γ D B w nL Q k n σ (pc + 1) lv (.long (x + y) :: st)) : V Γ D B w nL Q k n σ pc lv (.long y :: .long x :: st) :=
  fun H locs ls cs ss hP hS hl hk hn => lv_ladd X.1 X.2.1 d (kk H locs ls cs ss hP hS hl hk hn)
theorem r_lsub (X : Cx Γ own cc nL D B rm) {x y : Int64} (d : decode cc pc = .ok (.lsub, 1)) (kk : V Γ D B w nL Q k n σ (pc + 1) lv (.long (x - y) :: st)) : V Γ D B w nL Q k n σ pc lv (.long y :: .long x :: st) :=
  fun H locs ls cs ss hP hS hl hk hn => lv_lsub X.1 X.2.1 d (kk H locs ls cs ss hP hS hl hk hn)
theorem r_lmul (X : Cx Γ own cc nL D B rm) {x y : Int64} (d : decode cc pc = .ok (.lmul, 1)) (kk : V Γ D B w nL Q k n σ (pc + 1) lv (.long (x * y) :: st)) : V Γ D B w nL Q k n σ pc lv (.long y :: .long x :: st) :=
  fun H locs ls cs ss hP hS hl hk hn => lv_lmul X.1 X.2.1 d (kk H locs ls cs ss hP hS hl hk hn)
theorem r_ishl (X : Cx Γ own cc nL D B rm) {x y : Int32} (d : decode cc pc = .ok (.ishl, 1)) (kk : V Γ D B w nL Q k n σ (pc + 1) lv (.int (x <<< (y &&& 31)) :: st)) : V Γ D B w nL Q k n σ pc lv (.int y :: .int x :: st) :=
  fun H locs ls cs ss hP hS hl hk hn => lv_ishl X.1 X.2.1 d (kk H locs ls cs ss hP hS hl hk hn)
theorem r_ishr (X : Cx Γ own cc nL D B rm) {x y : Int32} (d : decode cc pc = .ok (.ishr, 1)) (kk : V Γ D B w nL Q k n σ (pc + 1) lv (.int (x >>> (y &&& 31)) :: st)) : V Γ D B w nL Q k n σ pc lv (.int y :: .int x :: st) :=
  fun H locs ls cs ss hP hS hl hk hn => lv_ishr X.1 X.2.1 d (kk H locs ls cs ss hP hS hl hk hn)
theorem r_idiv (X : Cx Γ own cc nL D B rm) {x y : Int32} (d : decode cc pc = .ok (.idiv, 1)) (hne : ¬ y = 0) (kk : V Γ D B w nL Q k n σ (pc + 1) lv (.int (x / y) :: st)) : V Γ D B w nL Q k n σ pc lv (.int y :: .int x :: st) :=
  fun H locs ls cs ss hP hS hl hk hn => lv_idiv X.1 X.2.1 d hne (kk H locs ls cs ss hP hS hl hk hn)
theorem r_irem (X : Cx Γ own cc nL D B rm) {x y : Int32} (d : decode cc pc = .ok (.irem, 1)) (hne : ¬ y = 0) (kk : V Γ D B w nL Q k n σ (pc + 1) lv (.int (x - x / y * y) :: st)) : V Γ D B w nL Q k n σ pc lv (.int y :: .int x :: st) :=
  fun H locs ls cs ss hP hS hl hk hn => lv_irem X.1 X.2.1 d hne (kk H locs ls cs ss hP hS hl hk hn)
theorem r_ldiv (X : Cx Γ own cc nL D B rm) {x y : Int64} (d : decode cc pc = .ok (.ldiv, 1)) (hne : ¬ y = 0) (kk : V Γ D B w nL Q k n σ (pc + 1) lv (.long (x / y) :: st)) : V Γ D B w nL Q k n σ pc lv (.long y :: .long x :: st) :=
  fun H locs ls cs ss hP hS hl hk hn => lv_ldiv X.1 X.2.1 d hne (kk H locs ls cs ss hP hS hl hk hn)
theorem r_lneg (X : Cx Γ own cc nL D B rm) {x : Int64} (d : decode cc pc = .ok (.lneg, 1)) (kk : V Γ D B w nL Q k n σ (pc + 1) lv (.long (-x) :: st)) : V Γ D B w nL Q k n σ pc lv (.long x :: st) :=
  fun H locs ls cs ss hP hS hl hk hn => lv_lneg X.1 X.2.1 d (kk H locs ls cs ss hP hS hl hk hn)
theorem r_i2l (X : Cx Γ own cc nL D B rm) {x : Int32} (d : decode cc pc = .ok (.i2l, 1)) (kk : V Γ D B w nL Q k n σ (pc + 1) lv (.long x.toInt64 :: st)) : V Γ D B w nL Q k n σ pc lv (.int x :: st) :=
  fun H locs ls cs ss hP hS hl hk hn => lv_i2l X.1 X.2.1 d rfl (kk H locs ls cs ss hP hS hl hk hn)
theorem r_i2c (X : Cx Γ own cc nL D B rm) {x : Int32} (d : decode cc pc = .ok (.i2c, 1)) (kk : V Γ D B w nL Q k n σ (pc + 1) lv (.int (x.toUInt32 % 65536).toInt32 :: st)) : V Γ D B w nL Q k n σ pc lv (.int x :: st) :=
  fun H locs ls cs ss hP hS hl hk hn => lv_i2c X.1 X.2.1 d rfl (kk H locs ls cs ss hP hS hl hk hn)
theorem r_dup (X : Cx Γ own cc nL D B rm) {a : Value} (d : decode cc pc = .ok (.dup, 1)) (ha : a.category = 1) (kk : V Γ D B w nL Q k n σ (pc + 1) lv (a :: a :: st)) : V Γ D B w nL Q k n σ pc lv (a :: st) :=
  fun H locs ls cs ss hP hS hl hk hn => lv_dup X.1 X.2.1 d ha (kk H locs ls cs ss hP hS hl hk hn)
theorem r_dup2 (X : Cx Γ own cc nL D B rm) {a b : Value} (d : decode cc pc = .ok (.dup2, 1)) (ha : a.category = 1) (hb : b.category = 1) (kk : V Γ D B w nL Q k n σ (pc + 1) lv (a :: b :: a :: b :: st)) : V Γ D B w nL Q k n σ pc lv (a :: b :: st) :=
  fun H locs ls cs ss hP hS hl hk hn => lv_dup2_11 X.1 X.2.1 d ha hb (kk H locs ls cs ss hP hS hl hk hn)
theorem r_aconst_null (X : Cx Γ own cc nL D B rm) (d : decode cc pc = .ok (.aconst_null, 1)) (kk : V Γ D B w nL Q k n σ (pc + 1) lv (rfB B none :: st)) : V Γ D B w nL Q k n σ pc lv st := fun H locs ls cs ss hP hS hl hk hn => lv_null X.1 X.2.1 d (kk H locs ls cs ss hP hS hl hk hn)
theorem r_goto (X : Cx Γ own cc nL D B rm) {off : Int} {tgt : Nat} (d : decode cc pc = .ok (.goto off, 3)) (ht : (pc : Int) + off = (tgt : Int)) (kk : V Γ D B w nL Q k n σ tgt lv st) : V Γ D B w nL Q k n σ pc lv st :=
  fun H locs ls cs ss hP hS hl hk hn => lv_goto X.1 X.2.1 d ht (kk H locs ls cs ss hP hS hl hk hn)
theorem b_icmp_eq (X : Cx Γ own cc nL D B rm) {x y : Int32} {off : Int} {tgt : Nat} {α : Type} {a b z : α} (d : decode cc pc = .ok (.if_icmp .eq off, 3)) (ht : (pc : Int) + off = (tgt : Int)) (hf : (if x = y then a else b) = z) (kt : a = z → V Γ D B w nL Q k n σ tgt lv st) (kf : b = z → V Γ D B w nL Q k n σ (pc + 3) lv st) : V Γ D B w nL Q k n σ pc lv (.int y :: .int x :: st) :=
  fun H locs ls cs ss hP hS hl hk hn => lv_icmp_eq X.1 X.2.1 d ht (fun h => kt (ifp hf h) H locs ls cs ss hP hS hl hk hn) (fun h => kf (ifn hf h) H locs ls cs ss hP hS hl hk hn)
theorem b_if_eq (X : Cx Γ own cc nL D B rm) {x : Int32} {off : Int} {tgt : Nat} {α : Type} {a b z : α} (d : decode cc pc = .ok (.ifCond .eq off, 3)) (ht : (pc : Int) + off = (tgt : Int)) (hf : (if x = 0 then a else b) = z) (kt : a = z → V Γ D B w nL Q k n σ tgt lv st) (kf : b = z → V Γ D B w nL Q k n σ (pc + 3) lv st) : V Γ D B w nL Q k n σ pc lv (.int x :: st) :=
  fun H locs ls cs ss hP hS hl hk hn => lv_if_eq X.1 X.2.1 d ht (fun h => kt (ifp hf h) H locs ls cs ss hP hS hl hk hn) (fun h => kf (ifn hf h) H locs ls cs ss hP hS hl hk hn)
theorem b_icmp_ne (X : Cx Γ own cc nL D B rm) {x y : Int32} {off : Int} {tgt : Nat} {α : Type} {a b z : α} (d : decode cc pc = .ok (.if_icmp .ne off, 3)) (ht : (pc : Int) + off = (tgt : Int)) (hf : (if x = y then a else b) = z) (kt : a = z → V Γ D B w nL Q k n σ (pc + 3) lv st) (kf : b = z → V Γ D B w nL Q k n σ tgt lv st) : V Γ D B w nL Q k n σ pc lv (.int y :: .int x :: st) :=
  fun H locs ls cs ss hP hS hl hk hn => lv_icmp_ne X.1 X.2.1 d ht (fun h => kf (ifn hf h) H locs ls cs ss hP hS hl hk hn) (fun h => kt (ifp hf h) H locs ls cs ss hP hS hl hk hn)
theorem b_if_ne (X : Cx Γ own cc nL D B rm) {x : Int32} {off : Int} {tgt : Nat} {α : Type} {a b z : α} (d : decode cc pc = .ok (.ifCond .ne off, 3)) (ht : (pc : Int) + off = (tgt : Int)) (hf : (if x = 0 then a else b) = z) (kt : a = z → V Γ D B w nL Q k n σ (pc + 3) lv st) (kf : b = z → V Γ D B w nL Q k n σ tgt lv st) : V Γ D B w nL Q k n σ pc lv (.int x :: st) :=
  fun H locs ls cs ss hP hS hl hk hn => lv_if_ne X.1 X.2.1 d ht (fun h => kf (ifn hf h) H locs ls cs ss hP hS hl hk hn) (fun h => kt (ifp hf h) H locs ls cs ss hP hS hl hk hn)
theorem b_icmp_lt (X : Cx Γ own cc nL D B rm) {x y : Int32} {off : Int} {tgt : Nat} {α : Type} {a b z : α} (d : decode cc pc = .ok (.if_icmp .lt off, 3)) (ht : (pc : Int) + off = (tgt : Int)) (hf : (if x < y then a else b) = z) (kt : a = z → V Γ D B w nL Q k n σ tgt lv st) (kf : b = z → V Γ D B w nL Q k n σ (pc + 3) lv st) : V Γ D B w nL Q k n σ pc lv (.int y :: .int x :: st) :=
  fun H locs ls cs ss hP hS hl hk hn => lv_icmp_lt X.1 X.2.1 d ht (fun h => kt (ifp hf h) H locs ls cs ss hP hS hl hk hn) (fun h => kf (ifn hf h) H locs ls cs ss hP hS hl hk hn)
theorem b_if_lt (X : Cx Γ own cc nL D B rm) {x : Int32} {off : Int} {tgt : Nat} {α : Type} {a b z : α} (d : decode cc pc = .ok (.ifCond .lt off, 3)) (ht : (pc : Int) + off = (tgt : Int)) (hf : (if x < 0 then a else b) = z) (kt : a = z → V Γ D B w nL Q k n σ tgt lv st) (kf : b = z → V Γ D B w nL Q k n σ (pc + 3) lv st) : V Γ D B w nL Q k n σ pc lv (.int x :: st) :=
  fun H locs ls cs ss hP hS hl hk hn => lv_if_lt X.1 X.2.1 d ht (fun h => kt (ifp hf h) H locs ls cs ss hP hS hl hk hn) (fun h => kf (ifn hf h) H locs ls cs ss hP hS hl hk hn)
theorem b_icmp_ge (X : Cx Γ own cc nL D B rm) {x y : Int32} {off : Int} {tgt : Nat} {α : Type} {a b z : α} (d : decode cc pc = .ok (.if_icmp .ge off, 3)) (ht : (pc : Int) + off = (tgt : Int)) (hf : (if y ≤ x then a else b) = z) (kt : a = z → V Γ D B w nL Q k n σ tgt lv st) (kf : b = z → V Γ D B w nL Q k n σ (pc + 3) lv st) : V Γ D B w nL Q k n σ pc lv (.int y :: .int x :: st) :=
  fun H locs ls cs ss hP hS hl hk hn => lv_icmp_ge X.1 X.2.1 d ht (fun h => kt (ifp hf h) H locs ls cs ss hP hS hl hk hn) (fun h => kf (ifn hf h) H locs ls cs ss hP hS hl hk hn)
theorem b_if_ge (X : Cx Γ own cc nL D B rm) {x : Int32} {off : Int} {tgt : Nat} {α : Type} {a b z : α} (d : decode cc pc = .ok (.ifCond .ge off, 3)) (ht : (pc : Int) + off = (tgt : Int)) (hf : (if 0 ≤ x then a else b) = z) (kt : a = z → V Γ D B w nL Q k n σ tgt lv st) (kf : b = z → V Γ D B w nL Q k n σ (pc + 3) lv st) : V Γ D B w nL Q k n σ pc lv (.int x :: st) :=
  fun H locs ls cs ss hP hS hl hk hn => lv_if_ge X.1 X.2.1 d ht (fun h => kt (ifp hf h) H locs ls cs ss hP hS hl hk hn) (fun h => kf (ifn hf h) H locs ls cs ss hP hS hl hk hn)
theorem b_icmp_gt (X : Cx Γ own cc nL D B rm) {x y : Int32} {off : Int} {tgt : Nat} {α : Type} {a b z : α} (d : decode cc pc = .ok (.if_icmp .gt off, 3)) (ht : (pc : Int) + off = (tgt : Int)) (hf : (if y < x then a else b) = z) (kt : a = z → V Γ D B w nL Q k n σ tgt lv st) (kf : b = z → V Γ D B w nL Q k n σ (pc + 3) lv st) : V Γ D B w nL Q k n σ pc lv (.int y :: .int x :: st) :=
  fun H locs ls cs ss hP hS hl hk hn => lv_icmp_gt X.1 X.2.1 d ht (fun h => kt (ifp hf h) H locs ls cs ss hP hS hl hk hn) (fun h => kf (ifn hf h) H locs ls cs ss hP hS hl hk hn)
theorem b_if_gt (X : Cx Γ own cc nL D B rm) {x : Int32} {off : Int} {tgt : Nat} {α : Type} {a b z : α} (d : decode cc pc = .ok (.ifCond .gt off, 3)) (ht : (pc : Int) + off = (tgt : Int)) (hf : (if 0 < x then a else b) = z) (kt : a = z → V Γ D B w nL Q k n σ tgt lv st) (kf : b = z → V Γ D B w nL Q k n σ (pc + 3) lv st) : V Γ D B w nL Q k n σ pc lv (.int x :: st) :=
  fun H locs ls cs ss hP hS hl hk hn => lv_if_gt X.1 X.2.1 d ht (fun h => kt (ifp hf h) H locs ls cs ss hP hS hl hk hn) (fun h => kf (ifn hf h) H locs ls cs ss hP hS hl hk hn)
theorem b_icmp_le (X : Cx Γ own cc nL D B rm) {x y : Int32} {off : Int} {tgt : Nat} {α : Type} {a b z : α} (d : decode cc pc = .ok (.if_icmp .le off, 3)) (ht : (pc : Int) + off = (tgt : Int)) (hf : (if x ≤ y then a else b) = z) (kt : a = z → V Γ D B w nL Q k n σ tgt lv st) (kf : b = z → V Γ D B w nL Q k n σ (pc + 3) lv st) : V Γ D B w nL Q k n σ pc lv (.int y :: .int x :: st) :=
  fun H locs ls cs ss hP hS hl hk hn => lv_icmp_le X.1 X.2.1 d ht (fun h => kt (ifp hf h) H locs ls cs ss hP hS hl hk hn) (fun h => kf (ifn hf h) H locs ls cs ss hP hS hl hk hn)
theorem b_if_le (X : Cx Γ own cc nL D B rm) {x : Int32} {off : Int} {tgt : Nat} {α : Type} {a b z : α} (d : decode cc pc = .ok (.ifCond .le off, 3)) (ht : (pc : Int) + off = (tgt : Int)) (hf : (if x ≤ 0 then a else b) = z) (kt : a = z → V Γ D B w nL Q k n σ tgt lv st) (kf : b = z → V Γ D B w nL Q k n σ (pc + 3) lv st) : V Γ D B w nL Q k n σ pc lv (.int x :: st) :=
  fun H locs ls cs ss hP hS hl hk hn => lv_if_le X.1 X.2.1 d ht (fun h => kt (ifp hf h) H locs ls cs ss hP hS hl hk hn) (fun h => kf (ifn hf h) H locs ls cs ss hP hS hl hk hn)
theorem b_ifnull (X : Cx Γ own cc nL D B rm) {x : Option Nat} {off : Int} {tgt : Nat} {α : Type} {a b z : α} (d : decode cc pc = .ok (.ifnull off, 3)) (ht : (pc : Int) + off = (tgt : Int)) (hf : (if x = none then a else b) = z) (kt : a = z → V Γ D B w nL Q k n σ tgt lv st) (kf : b = z → V Γ D B w nL Q k n σ (pc + 3) lv st) : V Γ D B w nL Q k n σ pc lv (rfB B x :: st) := by
  intro H locs ls cs ss hP hS hl hk hn
  cases x with
  | none => exact lv_ifnullN X.1 X.2.1 d ht (kt (ifp hf rfl) H locs ls cs ss hP hS hl hk hn)
  | some q => exact lv_ifnull X.1 X.2.1 d (kf (ifn hf (fun h => by cases h)) H locs ls cs ss hP hS hl hk hn)
theorem b_ifnonnull (X : Cx Γ own cc nL D B rm) {x : Option Nat} {off : Int} {tgt : Nat} {α : Type} {a b z : α} (d : decode cc pc = .ok (.ifnonnull off, 3)) (ht : (pc : Int) + off = (tgt : Int)) (hf : (if x = none then a else b) = z) (kt : a = z → V Γ D B w nL Q k n σ (pc + 3) lv st) (kf : b = z → V Γ D B w nL Q k n σ tgt lv st) : V Γ D B w nL Q k n σ pc lv (rfB B x :: st) := by
  intro H locs ls cs ss hP hS hl hk hn
  cases x with
  | none => exact lv_ifnonnullN X.1 X.2.1 d (kt (ifp hf rfl) H locs ls cs ss hP hS hl hk hn)
  | some q => exact lv_ifnonnull X.1 X.2.1 d ht (kf (ifn hf (fun h => by cases h)) H locs ls cs ss hP hS hl hk hn)
theorem lgc_eq (x y : Int64) : lg_cmp x y = 0 ↔ x = y := by
  unfold lg_cmp
  by_cases h : x = y
  · subst h; simp
  · by_cases h2 : y < x <;> simp [h, h2] <;> decide
theorem lgc_lt (x y : Int64) : lg_cmp x y < 0 ↔ x < y := by
  unfold lg_cmp
  rcases lg_tri x y with h | h | h
  · simp [lg_lt_not h, lg_lt_ne h, h]
  · subst h; simp
  · have h3 : ¬ x < y := lg_lt_not h
    simp [h, h3]
theorem lgc_gt (x y : Int64) : 0 < lg_cmp x y ↔ y < x := by
  unfold lg_cmp
  rcases lg_tri x y with h | h | h
  · simp [lg_lt_not h, lg_lt_ne h]
  · subst h; simp
  · simp [h]
theorem lgc_nlt {x y : Int32} : ¬ x < y ↔ y ≤ x := by rw [Int32.lt_iff_toInt_lt, Int32.le_iff_toInt_le]; omega
theorem lgc_nltL {x y : Int64} : ¬ x < y ↔ y ≤ x := by rw [Int64.lt_iff_toInt_lt, Int64.le_iff_toInt_le]; omega
theorem lgc_ge (x y : Int64) : 0 ≤ lg_cmp x y ↔ y ≤ x := by rw [← lgc_nlt, lgc_lt, lgc_nltL]
theorem lgc_le (x y : Int64) : lg_cmp x y ≤ 0 ↔ x ≤ y := by rw [← lgc_nlt, lgc_gt, lgc_nltL]
theorem b_lcmp_eq (X : Cx Γ own cc nL D B rm) {x y : Int64} {off : Int} {tgt : Nat} {α : Type} {a b z : α} (d : decode cc pc = .ok (.lcmp, 1)) (d2 : decode cc (pc + 1) = .ok (.ifCond .eq off, 3)) (ht : ((pc + 1 : Nat) : Int) + off = (tgt : Int)) (hf : (if x = y then a else b) = z) (kt : a = z → V Γ D B w nL Q k n σ tgt lv st) (kf : b = z → V Γ D B w nL Q k n σ (pc + 4) lv st) : V Γ D B w nL Q k n σ pc lv (.long y :: .long x :: st) :=
  fun H locs ls cs ss hP hS hl hk hn => W.lcmp X.1 X.2.1 d (lv_if_eq X.1 X.2.1 d2 ht (fun h => kt (ifp hf ((lgc_eq x y).mp h)) H locs ls cs ss hP hS hl hk hn) (fun h => kf (ifn hf (fun e => h ((lgc_eq x y).mpr e))) H locs ls cs ss hP hS hl hk hn))
theorem b_lcmp_ne (X : Cx Γ own cc nL D B rm) {x y : Int64} {off : Int} {tgt : Nat} {α : Type} {a b z : α} (d : decode cc pc = .ok (.lcmp, 1)) (d2 : decode cc (pc + 1) = .ok (.ifCond .ne off, 3)) (ht : ((pc + 1 : Nat) : Int) + off = (tgt : Int)) (hf : (if x = y then a else b) = z) (kt : a = z → V Γ D B w nL Q k n σ (pc + 4) lv st) (kf : b = z → V Γ D B w nL Q k n σ tgt lv st) : V Γ D B w nL Q k n σ pc lv (.long y :: .long x :: st) :=
  fun H locs ls cs ss hP hS hl hk hn => W.lcmp X.1 X.2.1 d (lv_if_ne X.1 X.2.1 d2 ht (fun h => kf (ifn hf (fun e => h ((lgc_eq x y).mpr e))) H locs ls cs ss hP hS hl hk hn) (fun h => kt (ifp hf ((lgc_eq x y).mp h)) H locs ls cs ss hP hS hl hk hn))
theorem b_lcmp_lt (X : Cx Γ own cc nL D B rm) {x y : Int64} {off : Int} {tgt : Nat} {α : Type} {a b z : α} (d : decode cc pc = .ok (.lcmp, 1)) (d2 : decode cc (pc + 1) = .ok (.ifCond .lt off, 3)) (ht : ((pc + 1 : Nat) : Int) + off = (tgt : Int)) (hf : (if x < y then a else b) = z) (kt : a = z → V Γ D B w nL Q k n σ tgt lv st) (kf : b = z → V Γ D B w nL Q k n σ (pc + 4) lv st) : V Γ D B w nL Q k n σ pc lv (.long y :: .long x :: st) :=
  fun H locs ls cs ss hP hS hl hk hn => W.lcmp X.1 X.2.1 d (lv_if_lt X.1 X.2.1 d2 ht (fun h => kt (ifp hf ((lgc_lt x y).mp h)) H locs ls cs ss hP hS hl hk hn) (fun h => kf (ifn hf (fun e => h ((lgc_lt x y).mpr e))) H locs ls cs ss hP hS hl hk hn))
theorem b_lcmp_ge (X : Cx Γ own cc nL D B rm) {x y : Int64} {off : Int} {tgt : Nat} {α : Type} {a b z : α} (d : decode cc pc = .ok (.lcmp, 1)) (d2 : decode cc (pc + 1) = .ok (.ifCond .ge off, 3)) (ht : ((pc + 1 : Nat) : Int) + off = (tgt : Int)) (hf : (if y ≤ x then a else b) = z) (kt : a = z → V Γ D B w nL Q k n σ tgt lv st) (kf : b = z → V Γ D B w nL Q k n σ (pc + 4) lv st) : V Γ D B w nL Q k n σ pc lv (.long y :: .long x :: st) :=
  fun H locs ls cs ss hP hS hl hk hn => W.lcmp X.1 X.2.1 d (lv_if_ge X.1 X.2.1 d2 ht (fun h => kt (ifp hf ((lgc_ge x y).mp h)) H locs ls cs ss hP hS hl hk hn) (fun h => kf (ifn hf (fun e => h ((lgc_ge x y).mpr e))) H locs ls cs ss hP hS hl hk hn))
theorem b_lcmp_gt (X : Cx Γ own cc nL D B rm) {x y : Int64} {off : Int} {tgt : Nat} {α : Type} {a b z : α} (d : decode cc pc = .ok (.lcmp, 1)) (d2 : decode cc (pc + 1) = .ok (.ifCond .gt off, 3)) (ht : ((pc + 1 : Nat) : Int) + off = (tgt : Int)) (hf : (if y < x then a else b) = z) (kt : a = z → V Γ D B w nL Q k n σ tgt lv st) (kf : b = z → V Γ D B w nL Q k n σ (pc + 4) lv st) : V Γ D B w nL Q k n σ pc lv (.long y :: .long x :: st) :=
  fun H locs ls cs ss hP hS hl hk hn => W.lcmp X.1 X.2.1 d (lv_if_gt X.1 X.2.1 d2 ht (fun h => kt (ifp hf ((lgc_gt x y).mp h)) H locs ls cs ss hP hS hl hk hn) (fun h => kf (ifn hf (fun e => h ((lgc_gt x y).mpr e))) H locs ls cs ss hP hS hl hk hn))
theorem b_lcmp_le (X : Cx Γ own cc nL D B rm) {x y : Int64} {off : Int} {tgt : Nat} {α : Type} {a b z : α} (d : decode cc pc = .ok (.lcmp, 1)) (d2 : decode cc (pc + 1) = .ok (.ifCond .le off, 3)) (ht : ((pc + 1 : Nat) : Int) + off = (tgt : Int)) (hf : (if x ≤ y then a else b) = z) (kt : a = z → V Γ D B w nL Q k n σ tgt lv st) (kf : b = z → V Γ D B w nL Q k n σ (pc + 4) lv st) : V Γ D B w nL Q k n σ pc lv (.long y :: .long x :: st) :=
  fun H locs ls cs ss hP hS hl hk hn => W.lcmp X.1 X.2.1 d (lv_if_le X.1 X.2.1 d2 ht (fun h => kt (ifp hf ((lgc_le x y).mp h)) H locs ls cs ss hP hS hl hk hn) (fun h => kf (ifn hf (fun e => h ((lgc_le x y).mpr e))) H locs ls cs ss hP hS hl hk hn))
theorem sw {x v : Int32} {α : Type} {a b z : α} {P : Prop} (hf : (if x = v then a else b) = z) (h1 : x = v → a = z → P) (h2 : ¬ x = v → b = z → P) : P := by
  by_cases h : x = v
  · exact h1 h (ifp hf h)
  · exact h2 h (ifn hf h)
theorem r_lookup (X : Cx Γ own cc nL D B rm) {dflt : Int} {ps : Array (Int × Int)} {len : Nat} {x : Int32} {off : Int} {tgt : Nat} (d : decode cc pc = .ok (.lookupswitch dflt ps, len)) (hp : (ps.toList.zip (ps.toList.drop 1)).all (fun (a, next) => a.1 < next.1) = true) (ho : Op.lookupswitch.offset ps.toList dflt x.toInt = off) (ht : (pc : Int) + off = (tgt : Int)) (kk : V Γ D B w nL Q k n σ tgt lv st) : V Γ D B w nL Q k n σ pc lv (.int x :: st) :=
  fun H locs ls cs ss hP hS hl hk hn => lv_lookup X.1 X.2.1 d hp ho ht (kk H locs ls cs ss hP hS hl hk hn)
theorem r_tableIn (X : Cx Γ own cc nL D B rm) {dflt lo hi : Int} {offs : Array Int} {len : Nat} {x : Int32} {off : Int} {tgt : Nat} (d : decode cc pc = .ok (.tableswitch dflt lo hi offs, len)) (h1 : ¬ x.toInt < lo) (h2 : ¬ hi < x.toInt) (ho : offs[(x.toInt - lo).toNat]? = some off) (ht : (pc : Int) + off = (tgt : Int)) (kk : V Γ D B w nL Q k n σ tgt lv st) : V Γ D B w nL Q k n σ pc lv (.int x :: st) :=
  fun H locs ls cs ss hP hS hl hk hn => lv_tableIn X.1 X.2.1 d h1 h2 ho ht (kk H locs ls cs ss hP hS hl hk hn)
theorem r_tableOut (X : Cx Γ own cc nL D B rm) {dflt lo hi : Int} {offs : Array Int} {len : Nat} {x : Int32} {tgt : Nat} (d : decode cc pc = .ok (.tableswitch dflt lo hi offs, len)) (h : x.toInt < lo ∨ hi < x.toInt) (ht : (pc : Int) + dflt = (tgt : Int)) (kk : V Γ D B w nL Q k n σ tgt lv st) : V Γ D B w nL Q k n σ pc lv (.int x :: st) :=
  fun H locs ls cs ss hP hS hl hk hn => lv_tableOut X.1 X.2.1 d h ht (kk H locs ls cs ss hP hS hl hk hn)
end ROWS
