/-! texts as lists; what the law's texts become -/
def txt (l : List Nat) : Nat → Nat := fun k => l.getD k 0
theorem txt_nil : txt [] = fun _ => 0 := rfl
theorem txt_ups (l : List Nat) (c : Nat) : ups (txt l) l.length c = txt (l ++ [c]) := by
  funext k
  unfold ups txt
  rw [List.getD_eq_getElem?_getD, List.getD_eq_getElem?_getD]
  by_cases e : k = l.length
  · rw [if_pos e, e, List.getElem?_append_right (Nat.le_refl _)]; simp
  · rw [if_neg e]
    by_cases h : k < l.length
    · rw [List.getElem?_append_left h]
    · rw [List.getElem?_eq_none (by omega), List.getElem?_eq_none (by simp; omega)]
/-- where no question goes on; -1: it is one -/
def errL (l : List Nat) : Int32 := match ques (txt l) l.length with
  | none => io (perr (txt l))
  | some _ => -io 1
def dicC (p : Int32) : Int32 := ((((608135817 : Int32) * (p + 313)) + (((715 : Int32) * p) * p)) + 211) &&& 2147483647
def codI (p0 : Int32) : Int32 :=
  if 4 ≤ (p0 - p0 / 30 * 30) then
    (if 6 ≤ (p0 - p0 / 30 * 30) then
      (if 8 ≤ (p0 - p0 / 30 * 30) then
        (if (p0 - p0 / 30 * 30) = 8 then
          (43)
        else
          (if (p0 - p0 / 30 * 30) = 9 then
            (45)
          else
            (if (p0 - p0 / 30 * 30) = 10 then
              (42)
            else
              (if (p0 - p0 / 30 * 30) = 11 then
                (47)
              else
                (if (p0 - p0 / 30 * 30) = 12 then
                  (60)
                else
                  (if (p0 - p0 / 30 * 30) = 13 then
                    (62)
                  else
                    (if (p0 - p0 / 30 * 30) = 14 then
                      (61)
                    else
                      (if 17 ≤ (p0 - p0 / 30 * 30) then
                        (if (p0 - p0 / 30 * 30) = 17 then
                          (115)
                        else
                          (if (p0 - p0 / 30 * 30) = 18 then
                            (109)
                          else
                            (if (p0 - p0 / 30 * 30) = 19 then
                              (120)
                            else
                              (if (p0 - p0 / 30 * 30) = 20 then
                                (100)
                              else
                                (if (p0 - p0 / 30 * 30) = 21 then
                                  (116)
                                else
                                  (if (p0 - p0 / 30 * 30) = 22 then
                                    (58)
                                  else
                                    (if (p0 - p0 / 30 * 30) = 23 then
                                      (112)
                                    else
                                      (if (p0 - p0 / 30 * 30) = 24 then
                                        (108)
                                      else
                                        (if (p0 - p0 / 30 * 30) = 25 then
                                          (118)
                                        else
                                          (if (p0 - p0 / 30 * 30) = 26 then
                                            (104)
                                          else
                                            (if (p0 - p0 / 30 * 30) = 27 then
                                              (33)
                                            else
                                              (if (p0 - p0 / 30 * 30) = 28 then
                                                (38)
                                              else
                                                (124)))))))))))))
                      else
                        (110)))))))))
      else
        (41))
    else
      (40))
  else
    (((48 : Int32) + ((p0 / 30) - (p0 / 30) / 10 * 10)))
theorem ite_s {s : St} {c : Prop} [Decidable c] {a b : Int32} {x y : Option (Int32 × St)} (h1 : x = some (a, s)) (h2 : y = some (b, s)) : (if c then x else y) = some ((if c then a else b), s) := by
  by_cases h : c
  · rw [if_pos h, if_pos h]; exact h1
  · rw [if_neg h, if_neg h]; exact h2
theorem code_eq (F : Nat) (s : St) (p : Int32) : f_L_code F s p = some (codI p, s) := by
  unfold f_L_code codI
  repeat' (refine ite_s ?_ ?_)
  all_goals rfl
/-- a sign more, and perhaps off again; none: the law would find fault -/
def stp (at9 k : Nat) (l : List Nat) (b : Int32) : Option (List Nat × Int32) :=
  if codI (dicC (io (at9 + k))) = io (cl (codI (dicC (io (at9 + k))))) ∧ 32 ≤ cl (codI (dicC (io (at9 + k)))) ∧ cl (codI (dicC (io (at9 + k)))) ≤ 126 ∧ ¬ (errL (l ++ [cl (codI (dicC (io (at9 + k))))]) < -io 1) ∧ ¬ (io (l.length + 1) < errL (l ++ [cl (codI (dicC (io (at9 + k))))])) ∧ (b < io 0 ∨ b = io l.length ∨ errL (l ++ [cl (codI (dicC (io (at9 + k))))]) = b) ∧ (errL (l ++ [cl (codI (dicC (io (at9 + k))))]) < io 0 ∨ io l.length ≤ errL (l ++ [cl (codI (dicC (io (at9 + k))))]) ∨ errL (l ++ [cl (codI (dicC (io (at9 + k))))]) = b) then
    (if errL (l ++ [cl (codI (dicC (io (at9 + k))))]) = io l.length then
      (if dicC (io (at9 + k)) / io 900 - dicC (io (at9 + k)) / io 900 / io 9 * io 9 ≤ io 0 then some (l ++ [cl (codI (dicC (io (at9 + k))))], errL (l ++ [cl (codI (dicC (io (at9 + k))))]))
        else if errL l = -io 1 ∨ errL l = io l.length then some (l, errL l) else none)
      else some (l ++ [cl (codI (dicC (io (at9 + k))))], errL (l ++ [cl (codI (dicC (io (at9 + k))))])))
    else none
def smt (at9 : Nat) : Nat → Nat → List Nat → Int32 → Bool
  | 0, _, _, _ => true
  | n + 1, k, l, b => match stp at9 k l b with
    | none => false
    | some x => smt at9 n (k + 1) x.1 x.2
theorem texts_a : ∀ j, j < 40 → smt (300 + 26 * j) 26 0 [] 0 = true := by decide +kernel
